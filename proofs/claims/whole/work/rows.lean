section
/-! terms as trees: an (a b) is .append a b; FUNCTION of the name j is .tag j a; all else is a leaf, whose token is tm_val (FREE n: n; the VARIABLE of the name j: -1 - j) -/
def tm_leaf : Std.Format → Bool
  | .append _ _ => false
  | .tag _ _ => false
  | _ => true
def tm_val : Std.Format → Int
  | .nest n _ => n
  | _ => 0
theorem tm_ind {P : Std.Format → Prop} (hl : ∀ t, tm_leaf t = true → P t) (hf : ∀ j a, P a → P (.tag j a)) (ha : ∀ a b, P a → P b → P (.append a b)) (t : Std.Format) : P t := by
  induction t with
  | append a b iha ihb => exact ha a b iha ihb
  | tag j a ih => exact hf j a ih
  | nil => exact hl _ rfl
  | line => exact hl _ rfl
  | align b => exact hl _ rfl
  | text s => exact hl _ rfl
  | nest n f _ => exact hl _ rfl
  | group f b _ => exact hl _ rfl
def tm_sz : Std.Format → Nat
  | .append a b => 1 + tm_sz a + tm_sz b
  | .tag _ a => 1 + tm_sz a
  | _ => 1
def tm_dp : Std.Format → Nat
  | .append a b => 1 + max (tm_dp a) (tm_dp b)
  | .tag _ a => 1 + tm_dp a
  | _ => 1
def tm_nf : Std.Format → Nat
  | .append a b => tm_nf a + tm_nf b
  | .tag _ a => 1 + tm_nf a
  | _ => 0
def tm_fn : Std.Format → List Nat
  | .append a b => tm_fn a ++ tm_fn b
  | .tag j a => j :: tm_fn a
  | _ => []
/-- a term as a row, in the order in which it is written; E: the names of the FUNCTIONS around, the innermost first -/
def tm_ln (fa : Int) (ff : Nat → Int) (fl : List Nat → Int → Int) : Std.Format → List Nat → List Int
  | .append a b, E => fa :: (tm_ln fa ff fl a E ++ tm_ln fa ff fl b E)
  | .tag j a, E => ff j :: tm_ln fa ff fl a (j :: E)
  | t, E => [fl E (tm_val t)]
theorem tm_sz_leaf {t : Std.Format} (h : tm_leaf t = true) : tm_sz t = 1 := by cases t <;> first | rfl | cases h
theorem tm_dp_leaf {t : Std.Format} (h : tm_leaf t = true) : tm_dp t = 1 := by cases t <;> first | rfl | cases h
theorem tm_nf_leaf {t : Std.Format} (h : tm_leaf t = true) : tm_nf t = 0 := by cases t <;> first | rfl | cases h
theorem tm_fn_leaf {t : Std.Format} (h : tm_leaf t = true) : tm_fn t = [] := by cases t <;> first | rfl | cases h
theorem tm_ln_leaf {fa : Int} {ff : Nat → Int} {fl : List Nat → Int → Int} {t : Std.Format} (h : tm_leaf t = true) (E : List Nat) : tm_ln fa ff fl t E = [fl E (tm_val t)] := by cases t <;> first | rfl | cases h
theorem tm_ln_app {fa : Int} {ff : Nat → Int} {fl : List Nat → Int → Int} (a b : Std.Format) (E : List Nat) : tm_ln fa ff fl (.append a b) E = fa :: (tm_ln fa ff fl a E ++ tm_ln fa ff fl b E) := rfl
theorem tm_ln_fun {fa : Int} {ff : Nat → Int} {fl : List Nat → Int → Int} (j : Nat) (a : Std.Format) (E : List Nat) : tm_ln fa ff fl (.tag j a) E = ff j :: tm_ln fa ff fl a (j :: E) := rfl
theorem tm_ln_len {fa : Int} {ff : Nat → Int} {fl : List Nat → Int → Int} (t : Std.Format) : ∀ E, (tm_ln fa ff fl t E).length = tm_sz t := by
  induction t using tm_ind with
  | hl t h => intro E; rw [tm_ln_leaf h, tm_sz_leaf h]; rfl
  | hf j a ih => intro E; rw [tm_ln_fun, List.length_cons, ih]; show _ = 1 + tm_sz a; omega
  | ha a b iha ihb => intro E; rw [tm_ln_app, List.length_cons, List.length_append, iha, ihb]; show _ = 1 + tm_sz a + tm_sz b; omega
theorem tm_sz_pos (t : Std.Format) : 1 ≤ tm_sz t := by
  induction t using tm_ind with
  | hl t h => rw [tm_sz_leaf h]; omega
  | hf j a ih => show 1 ≤ 1 + tm_sz a; omega
  | ha a b iha ihb => show 1 ≤ 1 + tm_sz a + tm_sz b; omega
theorem tm_dp_pos (t : Std.Format) : 1 ≤ tm_dp t := by
  induction t using tm_ind with
  | hl t h => rw [tm_dp_leaf h]; omega
  | hf j a ih => show 1 ≤ 1 + tm_dp a; omega
  | ha a b iha ihb => show 1 ≤ 1 + max (tm_dp a) (tm_dp b); omega
theorem tm_dp_sz (t : Std.Format) : tm_dp t ≤ tm_sz t := by
  induction t using tm_ind with
  | hl t h => rw [tm_sz_leaf h, tm_dp_leaf h]; omega
  | hf j a ih => show 1 + tm_dp a ≤ 1 + tm_sz a; omega
  | ha a b iha ihb => show 1 + max (tm_dp a) (tm_dp b) ≤ 1 + tm_sz a + tm_sz b; omega
theorem tm_nf_sz (t : Std.Format) : tm_nf t + 1 ≤ tm_sz t := by
  induction t using tm_ind with
  | hl t h => rw [tm_sz_leaf h, tm_nf_leaf h]; omega
  | hf j a ih => show 1 + tm_nf a + 1 ≤ 1 + tm_sz a; omega
  | ha a b iha ihb => show tm_nf a + tm_nf b + 1 ≤ 1 + tm_sz a + tm_sz b; omega
/-- the place of a name among those around -/
def tm_ix (v : Nat) : List Nat → Nat
  | [] => 0
  | k :: E => if k = v then 0 else tm_ix v E + 1
theorem tm_ix_in {v : Nat} {E : List Nat} (h : v ∈ E) : tm_ix v E < E.length := by
  induction E with
  | nil => cases h
  | cons k E ih =>
    by_cases hk : k = v
    · simp [tm_ix, hk]
    · have h2 : v ∈ E := by
        rcases List.mem_cons.mp h with h | h
        · exact absurd h.symm hk
        · exact h
      have := ih h2
      simp [tm_ix, hk]
      omega
theorem tm_ix_at {v : Nat} {E : List Nat} (h : v ∈ E) : E[tm_ix v E]? = some v := by
  induction E with
  | nil => cases h
  | cons k E ih =>
    by_cases hk : k = v
    · simp [tm_ix, hk]
    · have h2 : v ∈ E := by
        rcases List.mem_cons.mp h with h | h
        · exact absurd h.symm hk
        · exact h
      simp [tm_ix, hk, ih h2]
theorem tm_ix_left {v : Nat} {F : List Nat} (h : v ∈ F) (E : List Nat) : tm_ix v (F ++ E) = tm_ix v F := by
  induction F with
  | nil => cases h
  | cons k F ih =>
    by_cases hk : k = v
    · simp [tm_ix, hk]
    · have h2 : v ∈ F := by
        rcases List.mem_cons.mp h with h | h
        · exact absurd h.symm hk
        · exact h
      simp [tm_ix, hk, ih h2]
theorem tm_ix_right {v : Nat} {F : List Nat} (h : v ∉ F) (E : List Nat) : tm_ix v (F ++ E) = F.length + tm_ix v E := by
  induction F with
  | nil => simp
  | cons k F ih =>
    have hk : k ≠ v := fun q => h (by simp [q])
    have h2 : v ∉ F := fun q => h (by simp [q])
    simp [tm_ix, hk, ih h2]
    omega
/-- a leaf's cell in the class -/
def tm_lc (E : List Nat) (n : Int) : Int := if 0 ≤ n then n else 100 + (tm_ix (-1 - n).toNat E : Int)
theorem tm_lc_nn (E : List Nat) (n : Int) : 0 ≤ tm_lc E n := by
  unfold tm_lc
  split <;> omega
theorem tm_lc_free {E : List Nat} {n : Int} (h : 0 ≤ n) : tm_lc E n = n := by simp [tm_lc, h]
theorem tm_lc_var {E : List Nat} {n : Int} (h : n < 0) : tm_lc E n = 100 + (tm_ix (-1 - n).toNat E : Int) := by
  have : ¬ 0 ≤ n := by omega
  simp [tm_lc, this]
/-- the class's row, the reference's, and the kinds ((a b) 2, FUNCTION 1, a leaf 0) -/
def tm_db (t : Std.Format) (E : List Nat) : List Int := tm_ln (-1) (fun _ => -2) tm_lc t E
def tm_row (t : Std.Format) : List Int := tm_ln 1000 (fun j => 2000 + (j : Int)) (fun _ n => n) t []
def tm_ks (t : Std.Format) : List Int := tm_ln 2 (fun _ => 1) (fun _ _ => 0) t []
theorem tm_db_leaf {t : Std.Format} (h : tm_leaf t = true) (E : List Nat) : tm_db t E = [tm_lc E (tm_val t)] := tm_ln_leaf h E
theorem tm_db_app (a b : Std.Format) (E : List Nat) : tm_db (.append a b) E = -1 :: (tm_db a E ++ tm_db b E) := rfl
theorem tm_db_fun (j : Nat) (a : Std.Format) (E : List Nat) : tm_db (.tag j a) E = -2 :: tm_db a (j :: E) := rfl
theorem tm_db_len (t : Std.Format) (E : List Nat) : (tm_db t E).length = tm_sz t := tm_ln_len t E
theorem tm_ln_env {fa : Int} {ff : Nat → Int} {g : Int → Int} (t : Std.Format) : ∀ E, tm_ln fa ff (fun _ n => g n) t E = tm_ln fa ff (fun _ n => g n) t [] := by
  induction t using tm_ind with
  | hl t h => intro E; rw [tm_ln_leaf h, tm_ln_leaf h]
  | hf j a ih => intro E; rw [tm_ln_fun, tm_ln_fun, ih (j :: E), ih [j]]
  | ha a b iha ihb => intro E; rw [tm_ln_app, tm_ln_app, iha E, ihb E]
theorem tm_row_leaf {t : Std.Format} (h : tm_leaf t = true) : tm_row t = [tm_val t] := tm_ln_leaf h []
theorem tm_row_app (a b : Std.Format) : tm_row (.append a b) = 1000 :: (tm_row a ++ tm_row b) := rfl
theorem tm_row_fun (j : Nat) (a : Std.Format) : tm_row (.tag j a) = (2000 + (j : Int)) :: tm_row a := by
  show _ :: tm_ln _ _ _ a [j] = _
  rw [tm_ln_env (g := fun n => n) a [j]]
  rfl
theorem tm_row_len (t : Std.Format) : (tm_row t).length = tm_sz t := tm_ln_len t []
theorem tm_ks_leaf {t : Std.Format} (h : tm_leaf t = true) : tm_ks t = [0] := tm_ln_leaf h []
theorem tm_ks_app (a b : Std.Format) : tm_ks (.append a b) = 2 :: (tm_ks a ++ tm_ks b) := rfl
theorem tm_ks_fun (j : Nat) (a : Std.Format) : tm_ks (.tag j a) = 1 :: tm_ks a := by
  show _ :: tm_ln _ _ _ a [j] = _
  rw [tm_ln_env (g := fun _ => 0) a [j]]
  rfl
theorem tm_ks_len (t : Std.Format) : (tm_ks t).length = tm_sz t := tm_ln_len t []
/-- every VARIABLE has its FUNCTION around it; every FREE one is of 0 .. 99 -/
def tm_sc : Std.Format → List Nat → Prop
  | .append a b, E => tm_sc a E ∧ tm_sc b E
  | .tag j a, E => tm_sc a (j :: E)
  | t, E => (0 ≤ tm_val t ∧ tm_val t ≤ 99) ∨ (tm_val t < 0 ∧ (-1 - tm_val t).toNat ∈ E)
theorem tm_sc_leaf {t : Std.Format} (h : tm_leaf t = true) (E : List Nat) : tm_sc t E = ((0 ≤ tm_val t ∧ tm_val t ≤ 99) ∨ (tm_val t < 0 ∧ (-1 - tm_val t).toNat ∈ E)) := by cases t <;> first | rfl | cases h
theorem tm_sc_mono (t : Std.Format) : ∀ E E', (∀ v ∈ E, v ∈ E') → tm_sc t E → tm_sc t E' := by
  induction t using tm_ind with
  | hl t h =>
    intro E E' hE hs
    rw [tm_sc_leaf h] at hs ⊢
    rcases hs with hs | ⟨h1, h2⟩
    · exact Or.inl hs
    · exact Or.inr ⟨h1, hE _ h2⟩
  | hf j a ih =>
    intro E E' hE hs
    refine ih (j :: E) (j :: E') (fun v hv => ?_) hs
    rcases List.mem_cons.mp hv with h | h
    · exact h ▸ List.mem_cons_self
    · exact List.mem_cons_of_mem _ (hE v h)
  | ha a b iha ihb => intro E E' hE hs; exact ⟨iha E E' hE hs.1, ihb E E' hE hs.2⟩
/-- the FUNCTIONS are numbered in the order of the row, from k on -/
def tm_cn : Std.Format → Nat → Prop
  | .append a b, k => tm_cn a k ∧ tm_cn b (k + tm_nf a)
  | .tag j a, k => j = k ∧ tm_cn a (k + 1)
  | _, _ => True
theorem tm_cn_leaf {t : Std.Format} (h : tm_leaf t = true) (k : Nat) : tm_cn t k = True := by cases t <;> first | rfl | cases h
theorem tm_cn_fn (t : Std.Format) : ∀ k, tm_cn t k → ∀ n ∈ tm_fn t, k ≤ n ∧ n < k + tm_nf t := by
  induction t using tm_ind with
  | hl t h => intro k _ n hn; rw [tm_fn_leaf h] at hn; cases hn
  | hf j a ih =>
    intro k hc n hn
    obtain ⟨rfl, hc⟩ := hc
    show j ≤ n ∧ n < j + (1 + tm_nf a)
    rcases List.mem_cons.mp hn with h | h
    · omega
    · have := ih _ hc n h
      omega
  | ha a b iha ihb =>
    intro k hc n hn
    show k ≤ n ∧ n < k + (tm_nf a + tm_nf b)
    rcases List.mem_append.mp hn with h | h
    · have := iha _ hc.1 n h
      omega
    · have := ihb _ hc.2 n h
      omega
theorem tm_db_cl (t : Std.Format) : ∀ G E, tm_sc t G → tm_db t (G ++ E) = tm_db t G := by
  induction t using tm_ind with
  | hl t h =>
    intro G E hs
    rw [tm_db_leaf h, tm_db_leaf h]
    rw [tm_sc_leaf h] at hs
    rcases hs with ⟨h1, h2⟩ | ⟨h1, h2⟩
    · rw [tm_lc_free h1, tm_lc_free h1]
    · rw [tm_lc_var h1, tm_lc_var h1, tm_ix_left h2]
  | hf j a ih =>
    intro G E hs
    rw [tm_db_fun, tm_db_fun]
    exact congrArg _ (ih (j :: G) E hs)
  | ha a b iha ihb => intro G E hs; rw [tm_db_app, tm_db_app, iha G E hs.1, ihb G E hs.2]
/-- the walk along a class's row: what waits (150 at most), and the count; p for an (a b), q for a FUNCTION -/
def tm_pop : List Nat → List Nat × Nat
  | [] => ([], 0)
  | y :: h => (h, y)
def tm_wk (p q : Nat) (s : List Nat × Nat) (x : Int) : List Nat × Nat :=
  if x = -1 then (if s.1.length < 150 then (s.2 + p) :: s.1 else s.1, s.2 + p) else if x = -2 then (s.1, s.2 + q) else tm_pop s.1
theorem tm_wk_a (p q : Nat) {h : List Nat} (hh : h.length < 150) (c : Nat) : tm_wk p q (h, c) (-1) = ((c + p) :: h, c + p) := by simp [tm_wk, hh]
theorem tm_wk_f (p q : Nat) (h : List Nat) (c : Nat) : tm_wk p q (h, c) (-2) = (h, c + q) := rfl
theorem tm_wk_l (p q : Nat) (s : List Nat × Nat) {x : Int} (hx : 0 ≤ x) : tm_wk p q s x = tm_pop s.1 := by
  have h1 : ¬ x = -1 := by omega
  have h2 : ¬ x = -2 := by omega
  simp [tm_wk, h1, h2]
def tm_ws (p q : Nat) (s : List Nat × Nat) (L : List Int) : List Nat × Nat := L.foldl (tm_wk p q) s
theorem tm_ws_app (p q : Nat) (s : List Nat × Nat) (L M : List Int) : tm_ws p q s (L ++ M) = tm_ws p q (tm_ws p q s L) M := List.foldl_append ..
theorem tm_ws_cons (p q : Nat) (s : List Nat × Nat) (x : Int) (M : List Int) : tm_ws p q s (x :: M) = tm_ws p q (tm_wk p q s x) M := rfl
theorem tm_dp_f (j : Nat) (a : Std.Format) : tm_dp (.tag j a) = 1 + tm_dp a := rfl
theorem tm_dp_a (a b : Std.Format) : tm_dp (.append a b) = 1 + max (tm_dp a) (tm_dp b) := rfl
theorem tm_ws_db (p q : Nat) (t : Std.Format) : ∀ E h c, h.length + tm_dp t ≤ 151 → tm_ws p q (h, c) (tm_db t E) = tm_pop h := by
  induction t using tm_ind with
  | hl t h => intro E s c _; rw [tm_db_leaf h, tm_ws_cons, tm_wk_l _ _ _ (tm_lc_nn _ _)]; rfl
  | hf j a ih =>
    intro E s c hh
    rw [tm_dp_f] at hh
    rw [tm_db_fun, tm_ws_cons, tm_wk_f, ih _ _ _ (by omega)]
  | ha a b iha ihb =>
    intro E s c hh
    rw [tm_dp_a] at hh
    have h1 := tm_dp_pos a
    rw [tm_db_app, tm_ws_cons, tm_wk_a _ _ (by omega), tm_ws_app, iha _ _ _ (by simp; omega)]
    show tm_ws p q (s, c + p) _ = _
    rw [ihb _ _ _ (by omega)]
/-- what a walk writes -/
def tm_fl (p q : Nat) (g : Int → Nat → List Int) : List Int → List Nat × Nat → List Int
  | [], _ => []
  | x :: L, s => g x s.2 ++ tm_fl p q g L (tm_wk p q s x)
theorem tm_fl_app (p q : Nat) (g : Int → Nat → List Int) (L M : List Int) : ∀ s, tm_fl p q g (L ++ M) s = tm_fl p q g L s ++ tm_fl p q g M (tm_ws p q s L) := by
  induction L with
  | nil => intro s; rfl
  | cons x L ih => intro s; show g x s.2 ++ tm_fl p q g (L ++ M) _ = (g x s.2 ++ tm_fl p q g L _) ++ _; rw [ih, List.append_assoc]; rfl
theorem tm_fl_cons (p q : Nat) (g : Int → Nat → List Int) (x : Int) (L : List Int) (s : List Nat × Nat) : tm_fl p q g (x :: L) s = g x s.2 ++ tm_fl p q g L (tm_wk p q s x) := rfl
/-- raised by m -/
def tm_gr (m : Nat) (x : Int) (c : Nat) : List Int := [if 99 + (c : Int) < x then x + m else x]
theorem tm_raise (m : Nat) (b : Std.Format) (F E : List Nat) (hF : F.length = m) (hd : ∀ v ∈ E, v ∉ F) : ∀ G h, h.length + tm_dp b ≤ 151 → tm_sc b (G ++ E) → tm_fl 0 1 (tm_gr m) (tm_db b (G ++ E)) (h, G.length) = tm_db b (G ++ (F ++ E)) := by
  induction b using tm_ind with
  | hl t hl =>
    intro G h _ hs
    rw [tm_db_leaf hl, tm_db_leaf hl, tm_fl_cons]
    rw [tm_sc_leaf hl] at hs
    show tm_gr m _ _ ++ [] = _
    rw [List.append_nil]
    unfold tm_gr
    rcases hs with ⟨h1, h2⟩ | ⟨h1, h2⟩
    · rw [tm_lc_free h1, tm_lc_free h1, if_neg (by show ¬ 99 + ((G.length : Nat) : Int) < _; omega)]
    · rw [tm_lc_var h1, tm_lc_var h1]
      by_cases hG : (-1 - tm_val t).toNat ∈ G
      · have h3 := tm_ix_in hG
        rw [tm_ix_left hG, tm_ix_left hG, if_neg (by show ¬ 99 + ((G.length : Nat) : Int) < _; omega)]
      · have hE : (-1 - tm_val t).toNat ∈ E := by
          rcases List.mem_append.mp h2 with q | q
          · exact absurd q hG
          · exact q
        rw [tm_ix_right hG, tm_ix_right hG, tm_ix_right (hd _ hE), if_pos (by show 99 + ((G.length : Nat) : Int) < _; omega), hF]
        congr 1
        omega
  | hf j a ih =>
    intro G h hh hs
    rw [tm_dp_f] at hh
    rw [tm_db_fun, tm_db_fun, tm_fl_cons]
    have h1 := ih (j :: G) h (by omega) hs
    show [if _ then _ else _] ++ tm_fl 0 1 _ _ (h, G.length + 1) = _
    rw [if_neg (by show ¬ 99 + ((G.length : Nat) : Int) < _; omega)]
    exact congrArg _ h1
  | ha x y iha ihb =>
    intro G h hh hs
    rw [tm_dp_a] at hh
    have hx := tm_dp_pos x
    rw [tm_db_app, tm_db_app, tm_fl_cons, tm_wk_a _ _ (by omega), tm_fl_app, tm_ws_db _ _ _ _ _ _ (by simp; omega)]
    show [if _ then _ else _] ++ (tm_fl 0 1 _ _ (G.length :: h, G.length) ++ tm_fl 0 1 _ _ (h, G.length)) = _
    rw [if_neg (by show ¬ 99 + ((G.length : Nat) : Int) < _; omega), iha G _ (by simp; omega) hs.1, ihb G _ (by omega) hs.2]
    rfl
/-- PUT: b for the leaves of the token n -/
def tm_sub (n : Int) (b : Std.Format) : Std.Format → Std.Format
  | .append x y => .append (tm_sub n b x) (tm_sub n b y)
  | .tag j x => .tag j (tm_sub n b x)
  | t => if tm_val t = n then b else t
theorem tm_sub_leaf (n : Int) (b : Std.Format) {t : Std.Format} (h : tm_leaf t = true) : tm_sub n b t = if tm_val t = n then b else t := by cases t <;> first | rfl | cases h
theorem tm_row_sub {n : Int} (hn : n < 1000) (b a : Std.Format) : tm_row (tm_sub n b a) = (tm_row a).flatMap (fun x => if x = n then tm_row b else [x]) := by
  induction a using tm_ind with
  | hl t h =>
    rw [tm_sub_leaf n b h, tm_row_leaf h]
    by_cases hv : tm_val t = n
    · simp [hv]
    · simp [hv, tm_row_leaf h]
  | hf j a ih =>
    show tm_row (.tag j (tm_sub n b a)) = _
    have h1 : ¬ (2000 + (j : Int)) = n := by omega
    rw [tm_row_fun, tm_row_fun, ih, List.flatMap_cons, if_neg h1]
    rfl
  | ha x y iha ihb =>
    show tm_row (.append (tm_sub n b x) (tm_sub n b y)) = _
    have h1 : ¬ (1000 : Int) = n := by omega
    rw [tm_row_app, tm_row_app, iha, ihb, List.flatMap_cons, if_neg h1, List.flatMap_append]
    rfl
/-- the inside of a FUNCTION, filled: RB c is what goes in below c FUNCTIONS -/
def tm_gf (RB : Nat → List Int) (x : Int) (c : Nat) : List Int := if x = 100 + (c : Int) then RB c else [if 100 + (c : Int) < x then x - 1 else x]
theorem tm_fill (RB : Nat → List Int) (b : Std.Format) (j : Nat) (E : List Nat) (hR : ∀ F : List Nat, (∀ v ∈ E, v ∉ F) → RB F.length = tm_db b (F ++ E)) (a : Std.Format) : ∀ F h, h.length + tm_dp a ≤ 151 → tm_sc a (F ++ j :: E) → j ∉ F → (∀ v ∈ E, v ∉ F) → (∀ n ∈ tm_fn a, n ≠ j ∧ n ∉ E) →
    tm_fl 0 1 (tm_gf RB) (tm_db a (F ++ j :: E)) (h, F.length) = tm_db (tm_sub (-1 - (j : Int)) b a) (F ++ E) := by
  induction a using tm_ind with
  | hl t hl =>
    intro F h _ hs hj hE _
    rw [tm_db_leaf hl, tm_fl_cons, tm_sub_leaf _ _ hl]
    rw [tm_sc_leaf hl] at hs
    show tm_gf RB _ F.length ++ [] = _
    rw [List.append_nil]
    unfold tm_gf
    rcases hs with ⟨h1, h2⟩ | ⟨h1, h2⟩
    · rw [tm_lc_free h1, if_neg (by omega), if_neg (by omega), if_neg (by omega), tm_db_leaf hl, tm_lc_free h1]
    · rw [tm_lc_var h1]
      generalize hv : (-1 - tm_val t).toNat = v at h2 ⊢
      by_cases hvj : v = j
      · subst hvj
        rw [tm_ix_right hj]
        have h3 : tm_ix v (v :: E) = 0 := by simp [tm_ix]
        rw [h3, if_pos (by omega), if_pos (by omega), hR F hE]
      · rw [if_neg (show ¬ tm_val t = -1 - (j : Int) by omega), tm_db_leaf hl, tm_lc_var h1, hv]
        by_cases hF : v ∈ F
        · have h3 := tm_ix_in hF
          rw [tm_ix_left hF, tm_ix_left hF, if_neg (by omega), if_neg (by omega)]
        · have h3 : tm_ix v (j :: E) = tm_ix v E + 1 := by simp [tm_ix, Ne.symm hvj]
          rw [tm_ix_right hF, tm_ix_right hF, h3, if_neg (by omega), if_pos (by omega)]
          congr 1
          omega
  | hf i a ih =>
    intro F h hh hs hj hE hn
    rw [tm_dp_f] at hh
    rw [tm_db_fun, tm_fl_cons]
    have hi := hn i (List.mem_cons_self ..)
    have h1 := ih (i :: F) h (by omega) hs (fun q => by
      rcases List.mem_cons.mp q with q | q
      · exact hi.1 q.symm
      · exact hj q) (fun v hv q => by
      rcases List.mem_cons.mp q with q | q
      · exact hi.2 (q ▸ hv)
      · exact hE v hv q) (fun n q => hn n (List.mem_cons_of_mem _ q))
    show tm_gf RB (-2) F.length ++ tm_fl 0 1 _ _ (h, F.length + 1) = tm_db (.tag i (tm_sub _ b a)) (F ++ E)
    unfold tm_gf
    rw [if_neg (by omega), if_neg (by omega), tm_db_fun]
    exact congrArg _ h1
  | ha x y iha ihb =>
    intro F h hh hs hj hE hn
    rw [tm_dp_a] at hh
    have hx := tm_dp_pos x
    rw [tm_db_app, tm_fl_cons, tm_wk_a _ _ (by omega), tm_fl_app, tm_ws_db _ _ _ _ _ _ (by simp; omega)]
    show tm_gf RB (-1) F.length ++ (tm_fl 0 1 _ _ (F.length :: h, F.length) ++ tm_fl 0 1 _ _ (h, F.length)) = tm_db (.append (tm_sub _ b x) (tm_sub _ b y)) (F ++ E)
    rw [iha F _ (by simp; omega) hs.1 hj hE (fun n q => hn n (List.mem_append_left _ q)), ihb F _ (by omega) hs.2 hj hE (fun n q => hn n (List.mem_append_right _ q))]
    unfold tm_gf
    rw [if_neg (by omega), if_neg (by omega), tm_db_app]
    rfl
end
section
/-! terms, second part: bind, put, new names, the same, a place in a term -/
def tm_gb (n : Int) (x : Int) (c : Nat) : List Int := [if x = n then 100 + (c : Int) else x]
theorem tm_close {n : Int} (h0 : 0 ≤ n) (h9 : n ≤ 99) (z : Nat) (a : Std.Format) : ∀ F h, h.length + tm_dp a ≤ 151 → tm_sc a F → z ∉ F → z ∉ tm_fn a →
    tm_fl 0 1 (tm_gb n) (tm_db a F) (h, F.length) = tm_db (tm_sub n (.nest (-1 - (z : Int)) .nil) a) (F ++ [z]) := by
  induction a using tm_ind with
  | hl t hl =>
    intro F h _ hs hz _
    rw [tm_db_leaf hl, tm_fl_cons, tm_sub_leaf _ _ hl]
    rw [tm_sc_leaf hl] at hs
    show tm_gb n _ F.length ++ [] = _
    rw [List.append_nil]
    unfold tm_gb
    rcases hs with ⟨h1, h2⟩ | ⟨h1, h2⟩
    · rw [tm_lc_free h1]
      by_cases hv : tm_val t = n
      · rw [if_pos hv, if_pos hv]
        show _ = [tm_lc (F ++ [z]) (-1 - (z : Int))]
        rw [tm_lc_var (by omega), show (-1 - (-1 - (z : Int))).toNat = z by omega, tm_ix_right hz]
        simp [tm_ix]
      · rw [if_neg hv, if_neg hv, tm_db_leaf hl, tm_lc_free h1]
    · rw [tm_lc_var h1, if_neg (by omega), if_neg (by omega), tm_db_leaf hl, tm_lc_var h1, tm_ix_left h2]
  | hf i a ih =>
    intro F h hh hs hz hn
    rw [tm_dp_f] at hh
    rw [tm_db_fun, tm_fl_cons]
    have h1 := ih (i :: F) h (by omega) hs (fun q => by
      rcases List.mem_cons.mp q with q | q
      · exact hn (q ▸ List.mem_cons_self)
      · exact hz q) (fun q => hn (List.mem_cons_of_mem _ q))
    show tm_gb n (-2) F.length ++ tm_fl 0 1 _ _ (h, F.length + 1) = tm_db (.tag i (tm_sub _ _ a)) (F ++ [z])
    unfold tm_gb
    rw [if_neg (by omega), tm_db_fun]
    exact congrArg _ h1
  | ha x y iha ihb =>
    intro F h hh hs hz hn
    rw [tm_dp_a] at hh
    have hx := tm_dp_pos x
    rw [tm_db_app, tm_fl_cons, tm_wk_a _ _ (by omega), tm_fl_app, tm_ws_db _ _ _ _ _ _ (by simp; omega)]
    show tm_gb n (-1) F.length ++ (tm_fl 0 1 _ _ (F.length :: h, F.length) ++ tm_fl 0 1 _ _ (h, F.length)) = tm_db (.append (tm_sub _ _ x) (tm_sub _ _ y)) (F ++ [z])
    rw [iha F _ (by simp; omega) hs.1 hz (fun q => hn (List.mem_append_left _ q)), ihb F _ (by omega) hs.2 hz (fun q => hn (List.mem_append_right _ q))]
    unfold tm_gb
    rw [if_neg (by omega), tm_db_app]
    rfl
theorem tm_putdb {n : Int} (h0 : 0 ≤ n) (h9 : n ≤ 99) (b : Std.Format) (hb : tm_sc b []) (a : Std.Format) : ∀ E, tm_sc a E → tm_db (tm_sub n b a) E = (tm_db a E).flatMap (fun x => if x = n then tm_db b [] else [x]) := by
  induction a using tm_ind with
  | hl t hl =>
    intro E hs
    rw [tm_sub_leaf _ _ hl, tm_db_leaf hl]
    rw [tm_sc_leaf hl] at hs
    rcases hs with ⟨h1, h2⟩ | ⟨h1, h2⟩
    · rw [tm_lc_free h1]
      by_cases hv : tm_val t = n
      · have h3 := tm_db_cl b [] E hb
        rw [List.nil_append] at h3
        simp [hv, h3]
      · simp [hv, tm_db_leaf hl, tm_lc_free h1]
    · have h3 : ¬ tm_lc E (tm_val t) = n := by rw [tm_lc_var h1]; omega
      rw [if_neg (by omega), tm_db_leaf hl]
      simp [h3]
  | hf j a ih =>
    intro E hs
    show tm_db (.tag j (tm_sub n b a)) E = _
    have h1 : ¬ (-2 : Int) = n := by omega
    rw [tm_db_fun, tm_db_fun, ih _ hs, List.flatMap_cons, if_neg h1]
    rfl
  | ha x y iha ihb =>
    intro E hs
    show tm_db (.append (tm_sub n b x) (tm_sub n b y)) E = _
    have h1 : ¬ (-1 : Int) = n := by omega
    rw [tm_db_app, tm_db_app, iha _ hs.1, ihb _ hs.2, List.flatMap_cons, if_neg h1, List.flatMap_append]
    rfl
theorem tm_sub_sc (n : Int) (b : Std.Format) (E : List Nat) (hb : tm_sc b E) (D : List Nat) (hD : ∀ v ∈ D, v ∈ E ∨ -1 - (v : Int) = n) (a : Std.Format) : ∀ F, tm_sc a (F ++ D) → tm_sc (tm_sub n b a) (F ++ E) := by
  induction a using tm_ind with
  | hl t hl =>
    intro F hs
    rw [tm_sub_leaf _ _ hl]
    by_cases hv : tm_val t = n
    · rw [if_pos hv]
      exact tm_sc_mono b E _ (fun v q => List.mem_append_right _ q) hb
    · rw [if_neg hv, tm_sc_leaf hl]
      rw [tm_sc_leaf hl] at hs
      rcases hs with hs | ⟨h1, h2⟩
      · exact Or.inl hs
      · refine Or.inr ⟨h1, ?_⟩
        rcases List.mem_append.mp h2 with q | q
        · exact List.mem_append_left _ q
        · rcases hD _ q with q | q
          · exact List.mem_append_right _ q
          · exact absurd (by omega) hv
  | hf j a ih => intro F hs; exact ih (j :: F) hs
  | ha x y iha ihb => intro F hs; exact ⟨iha F hs.1, ihb F hs.2⟩
/-- new names, in the order of the row, from k on -/
def tm_rn : Std.Format → (Nat → Nat) → Nat → Std.Format
  | .append a b, f, k => .append (tm_rn a f k) (tm_rn b f (k + tm_nf a))
  | .tag j a, f, k => .tag k (tm_rn a (fun v => if v = j then k else f v) (k + 1))
  | t, f, _ => if tm_val t < 0 then .nest (-1 - (f (-1 - tm_val t).toNat : Int)) .nil else t
theorem tm_rn_leaf {t : Std.Format} (h : tm_leaf t = true) (f : Nat → Nat) (k : Nat) : tm_rn t f k = if tm_val t < 0 then .nest (-1 - (f (-1 - tm_val t).toNat : Int)) .nil else t := by cases t <;> first | rfl | cases h
theorem tm_rn_lleaf {t : Std.Format} (h : tm_leaf t = true) (f : Nat → Nat) (k : Nat) : tm_leaf (tm_rn t f k) = true := by
  rw [tm_rn_leaf h]
  split
  · rfl
  · exact h
theorem tm_rn_sz (t : Std.Format) : ∀ f k, tm_sz (tm_rn t f k) = tm_sz t := by
  induction t using tm_ind with
  | hl t h => intro f k; rw [tm_sz_leaf (tm_rn_lleaf h f k), tm_sz_leaf h]
  | hf j a ih => intro f k; show 1 + tm_sz _ = 1 + tm_sz a; rw [ih]
  | ha a b iha ihb => intro f k; show 1 + tm_sz _ + tm_sz _ = 1 + tm_sz a + tm_sz b; rw [iha, ihb]
theorem tm_rn_dp (t : Std.Format) : ∀ f k, tm_dp (tm_rn t f k) = tm_dp t := by
  induction t using tm_ind with
  | hl t h => intro f k; rw [tm_dp_leaf (tm_rn_lleaf h f k), tm_dp_leaf h]
  | hf j a ih => intro f k; show 1 + tm_dp _ = 1 + tm_dp a; rw [ih]
  | ha a b iha ihb => intro f k; show 1 + max (tm_dp _) (tm_dp _) = 1 + max (tm_dp a) (tm_dp b); rw [iha, ihb]
theorem tm_rn_nf (t : Std.Format) : ∀ f k, tm_nf (tm_rn t f k) = tm_nf t := by
  induction t using tm_ind with
  | hl t h => intro f k; rw [tm_nf_leaf (tm_rn_lleaf h f k), tm_nf_leaf h]
  | hf j a ih => intro f k; show 1 + tm_nf _ = 1 + tm_nf a; rw [ih]
  | ha a b iha ihb => intro f k; show tm_nf _ + tm_nf _ = tm_nf a + tm_nf b; rw [iha, ihb]
theorem tm_rn_cn (t : Std.Format) : ∀ f k, tm_cn (tm_rn t f k) k := by
  induction t using tm_ind with
  | hl t h => intro f k; rw [tm_cn_leaf (tm_rn_lleaf h f k)]; trivial
  | hf j a ih => intro f k; exact ⟨rfl, ih _ _⟩
  | ha a b iha ihb => intro f k; refine ⟨iha _ _, ?_⟩; rw [tm_rn_nf]; exact ihb _ _
theorem tm_rn_sc (t : Std.Format) : ∀ f k E E', tm_sc t E → (∀ v ∈ E, f v ∈ E') → tm_sc (tm_rn t f k) E' := by
  induction t using tm_ind with
  | hl t h =>
    intro f k E E' hs hE
    rw [tm_sc_leaf h] at hs
    rw [tm_rn_leaf h]
    rcases hs with hs | ⟨h1, h2⟩
    · rw [if_neg (by omega), tm_sc_leaf h]
      exact Or.inl hs
    · rw [if_pos h1]
      refine Or.inr ⟨?_, ?_⟩
      · show -1 - ((f _ : Nat) : Int) < 0
        omega
      · show (-1 - (-1 - ((f _ : Nat) : Int))).toNat ∈ E'
        rw [show ∀ z : Nat, (-1 - (-1 - (z : Int))).toNat = z from fun z => by omega]
        exact hE _ h2
  | hf j a ih =>
    intro f k E E' hs hE
    refine ih _ _ (j :: E) (k :: E') hs (fun v hv => ?_)
    show (if v = j then k else f v) ∈ k :: E'
    by_cases q : v = j
    · rw [if_pos q]; exact List.mem_cons_self
    · rw [if_neg q]
      rcases List.mem_cons.mp hv with h | h
      · exact absurd h q
      · exact List.mem_cons_of_mem _ (hE v h)
  | ha a b iha ihb => intro f k E E' hs hE; exact ⟨iha _ _ E E' hs.1 hE, ihb _ _ E E' hs.2 hE⟩
theorem tm_rn_db (t : Std.Format) : ∀ f k E E', tm_sc t E → (∀ v ∈ E, tm_ix (f v) E' = tm_ix v E ∧ f v < k) → tm_db (tm_rn t f k) E' = tm_db t E := by
  induction t using tm_ind with
  | hl t h =>
    intro f k E E' hs hE
    rw [tm_db_leaf (tm_rn_lleaf h f k), tm_db_leaf h]
    rw [tm_sc_leaf h] at hs
    rw [tm_rn_leaf h]
    rcases hs with hs | ⟨h1, h2⟩
    · rw [if_neg (by omega), tm_lc_free hs.1, tm_lc_free hs.1]
    · rw [if_pos h1, tm_lc_var h1]
      show [tm_lc E' (-1 - ((f _ : Nat) : Int))] = _
      rw [tm_lc_var (by omega), show ∀ z : Nat, (-1 - (-1 - (z : Int))).toNat = z from fun z => by omega, (hE _ h2).1]
  | hf j a ih =>
    intro f k E E' hs hE
    show tm_db (.tag k (tm_rn a _ (k + 1))) E' = _
    rw [tm_db_fun, tm_db_fun]
    refine congrArg _ (ih _ _ (j :: E) (k :: E') hs (fun v hv => ?_))
    show tm_ix (if v = j then k else f v) (k :: E') = tm_ix v (j :: E) ∧ (if v = j then k else f v) < k + 1
    by_cases q : v = j
    · subst q
      simp [tm_ix]
    · rw [if_neg q]
      rcases List.mem_cons.mp hv with h | h
      · exact absurd h q
      · have h1 := hE v h
        have h2 : ¬ k = f v := by omega
        have h3 : ¬ j = v := fun z => q z.symm
        simp only [tm_ix, if_neg h2, if_neg h3, h1.1]
        exact ⟨trivial, by omega⟩
  | ha a b iha ihb =>
    intro f k E E' hs hE
    show tm_db (.append (tm_rn a f k) (tm_rn b f (k + tm_nf a))) E' = _
    rw [tm_db_app, tm_db_app, iha _ _ E E' hs.1 hE, ihb _ _ E E' hs.2 (fun v hv => ⟨(hE v hv).1, by have := (hE v hv).2; omega⟩)]
/-- the term with its names put in order -/
def tm_can (t : Std.Format) : Std.Format := tm_rn t (fun v => v) 0
theorem tm_can_db {t : Std.Format} (h : tm_sc t []) : tm_db (tm_can t) [] = tm_db t [] := tm_rn_db t _ 0 [] [] h (fun _ q => by cases q)
theorem tm_can_sc {t : Std.Format} (h : tm_sc t []) : tm_sc (tm_can t) [] := tm_rn_sc t _ 0 [] [] h (fun _ q => by cases q)
/-- the names do not matter for a term without VARIABLES from outside -/
theorem tm_rn_irr (t : Std.Format) : ∀ f g k E, tm_sc t E → (∀ v ∈ E, f v = g v) → tm_rn t f k = tm_rn t g k := by
  induction t using tm_ind with
  | hl t h =>
    intro f g k E hs hE
    rw [tm_sc_leaf h] at hs
    rw [tm_rn_leaf h, tm_rn_leaf h]
    rcases hs with hs | ⟨h1, h2⟩
    · rw [if_neg (by omega), if_neg (by omega)]
    · rw [if_pos h1, if_pos h1, hE _ h2]
  | hf j a ih =>
    intro f g k E hs hE
    show Std.Format.tag k _ = Std.Format.tag k _
    rw [ih _ (fun v => if v = j then k else g v) (k + 1) (j :: E) hs (fun v hv => ?_)]
    show (if v = j then k else f v) = if v = j then k else g v
    by_cases q : v = j
    · rw [if_pos q, if_pos q]
    · rw [if_neg q, if_neg q]
      rcases List.mem_cons.mp hv with h | h
      · exact absurd h q
      · exact hE v h
  | ha a b iha ihb =>
    intro f g k E hs hE
    show Std.Format.append _ _ = Std.Format.append _ _
    rw [iha f g k E hs.1 hE, ihb f g _ E hs.2 hE]
theorem tm_cases (t : Std.Format) : tm_leaf t = true ∨ (∃ j a, t = .tag j a) ∨ ∃ a b, t = .append a b := by
  cases t <;> first | exact Or.inl rfl | exact Or.inr (Or.inl ⟨_, _, rfl⟩) | exact Or.inr (Or.inr ⟨_, _, rfl⟩)
/-- rows without names are the same just where the rows with names in order are -/
theorem tm_same1 (t : Std.Format) : ∀ u E k r r', tm_cn t k → tm_cn u k → tm_sc t E → tm_sc u E → tm_db t E ++ r = tm_db u E ++ r' → tm_row t = tm_row u ∧ tm_nf t = tm_nf u ∧ r = r' := by
  induction t using tm_ind with
  | hl t h =>
    intro u E k r r' _ _ hs hs' he
    rw [tm_sc_leaf h] at hs
    rw [tm_db_leaf h] at he
    rcases tm_cases u with hu | ⟨j, a, rfl⟩ | ⟨a, b, rfl⟩
    · rw [tm_db_leaf hu] at he
      rw [tm_sc_leaf hu] at hs'
      have he1 : tm_lc E (tm_val t) = tm_lc E (tm_val u) := (List.cons.inj he).1
      have he2 : r = r' := (List.cons.inj he).2
      refine ⟨?_, by rw [tm_nf_leaf h, tm_nf_leaf hu], he2⟩
      rw [tm_row_leaf h, tm_row_leaf hu]
      rcases hs with hs | ⟨h1, h2⟩ <;> rcases hs' with hs' | ⟨h3, h4⟩
      · rw [tm_lc_free hs.1, tm_lc_free hs'.1] at he1; rw [he1]
      · rw [tm_lc_free hs.1, tm_lc_var h3] at he1; omega
      · rw [tm_lc_var h1, tm_lc_free hs'.1] at he1; omega
      · rw [tm_lc_var h1, tm_lc_var h3] at he1
        have h5 : tm_ix (-1 - tm_val t).toNat E = tm_ix (-1 - tm_val u).toNat E := by omega
        have h6 := tm_ix_at h2
        rw [h5, tm_ix_at h4] at h6
        have h7 := Option.some.inj h6
        congr 1
        omega
    · rw [tm_db_fun] at he
      have := (List.cons.inj he).1
      have h9 := tm_lc_nn E (tm_val t)
      omega
    · rw [tm_db_app] at he
      have := (List.cons.inj he).1
      have h9 := tm_lc_nn E (tm_val t)
      omega
  | hf j a ih =>
    intro u E k r r' hc hc' hs hs' he
    rw [tm_db_fun] at he
    rcases tm_cases u with hu | ⟨i, b, rfl⟩ | ⟨x, y, rfl⟩
    · rw [tm_db_leaf hu] at he
      have := (List.cons.inj he).1
      have h9 := tm_lc_nn E (tm_val u)
      omega
    · obtain ⟨rfl, hc⟩ := hc
      obtain ⟨rfl, hc'⟩ := hc'
      rw [tm_db_fun] at he
      obtain ⟨h1, h2, h3⟩ := ih b (i :: E) _ r r' hc hc' hs hs' (List.cons.inj he).2
      refine ⟨?_, ?_, h3⟩
      · rw [tm_row_fun, tm_row_fun, h1]
      · show 1 + tm_nf a = 1 + tm_nf b
        rw [h2]
    · rw [tm_db_app] at he
      have := (List.cons.inj he).1
      omega
  | ha a b iha ihb =>
    intro u E k r r' hc hc' hs hs' he
    rw [tm_db_app] at he
    rcases tm_cases u with hu | ⟨i, z, rfl⟩ | ⟨x, y, rfl⟩
    · rw [tm_db_leaf hu] at he
      have := (List.cons.inj he).1
      have h9 := tm_lc_nn E (tm_val u)
      omega
    · rw [tm_db_fun] at he
      have := (List.cons.inj he).1
      omega
    · rw [tm_db_app] at he
      have h0 : (tm_db a E ++ tm_db b E) ++ r = (tm_db x E ++ tm_db y E) ++ r' := (List.cons.inj he).2
      rw [List.append_assoc, List.append_assoc] at h0
      obtain ⟨h1, h2, h3⟩ := iha x E k _ _ hc.1 hc'.1 hs.1 hs'.1 h0
      have hcb := hc.2
      rw [h2] at hcb
      obtain ⟨h4, h5, h6⟩ := ihb y E _ _ _ hcb hc'.2 hs.2 hs'.2 h3
      refine ⟨?_, ?_, h6⟩
      · rw [tm_row_app, tm_row_app, h1, h4]
      · show tm_nf a + tm_nf b = tm_nf x + tm_nf y
        rw [h2, h5]
theorem tm_same2 (t : Std.Format) : ∀ u E r r', tm_sc t E → tm_sc u E → tm_row t ++ r = tm_row u ++ r' → tm_db t E = tm_db u E ∧ r = r' := by
  induction t using tm_ind with
  | hl t h =>
    intro u E r r' hs hs' he
    rw [tm_sc_leaf h] at hs
    rw [tm_row_leaf h] at he
    rcases tm_cases u with hu | ⟨j, a, rfl⟩ | ⟨a, b, rfl⟩
    · rw [tm_row_leaf hu] at he
      refine ⟨?_, (List.cons.inj he).2⟩
      rw [tm_db_leaf h, tm_db_leaf hu, (List.cons.inj he).1]
    · rw [tm_row_fun] at he
      have := (List.cons.inj he).1
      omega
    · rw [tm_row_app] at he
      have := (List.cons.inj he).1
      omega
  | hf j a ih =>
    intro u E r r' hs hs' he
    rw [tm_row_fun] at he
    rcases tm_cases u with hu | ⟨i, b, rfl⟩ | ⟨x, y, rfl⟩
    · rw [tm_row_leaf hu] at he
      rw [tm_sc_leaf hu] at hs'
      have := (List.cons.inj he).1
      omega
    · rw [tm_row_fun] at he
      have h0 := (List.cons.inj he).1
      have h00 : j = i := by omega
      subst h00
      obtain ⟨h1, h2⟩ := ih b (j :: E) r r' hs hs' (List.cons.inj he).2
      exact ⟨by rw [tm_db_fun, tm_db_fun, h1], h2⟩
    · rw [tm_row_app] at he
      have := (List.cons.inj he).1
      omega
  | ha a b iha ihb =>
    intro u E r r' hs hs' he
    rw [tm_row_app] at he
    rcases tm_cases u with hu | ⟨i, z, rfl⟩ | ⟨x, y, rfl⟩
    · rw [tm_row_leaf hu] at he
      rw [tm_sc_leaf hu] at hs'
      have := (List.cons.inj he).1
      omega
    · rw [tm_row_fun] at he
      have := (List.cons.inj he).1
      omega
    · rw [tm_row_app] at he
      have h0 : (tm_row a ++ tm_row b) ++ r = (tm_row x ++ tm_row y) ++ r' := (List.cons.inj he).2
      rw [List.append_assoc, List.append_assoc] at h0
      obtain ⟨h1, h2⟩ := iha x E _ _ hs.1 hs'.1 h0
      obtain ⟨h3, h4⟩ := ihb y E _ _ hs.2 hs'.2 h2
      exact ⟨by rw [tm_db_app, tm_db_app, h1, h3], h4⟩
theorem tm_same {t u : Std.Format} (hc : tm_cn t 0) (hc' : tm_cn u 0) (hs : tm_sc t []) (hs' : tm_sc u []) : tm_db t [] = tm_db u [] ↔ tm_row t = tm_row u := by
  constructor
  · intro h
    exact (tm_same1 t u [] 0 [] [] hc hc' hs hs' (by rw [h])).1
  · intro h
    exact (tm_same2 t u [] [] [] hs hs' (by rw [h])).1
/-- the STEP at the place p -/
def tm_ct : Std.Format → Nat → Std.Format
  | .append x y, p => if p = 0 then (match x with
      | .tag j a => tm_sub (-1 - (j : Int)) y a
      | _ => .append x y) else if p - 1 < tm_sz x then .append (tm_ct x (p - 1)) y else .append x (tm_ct y (p - 1 - tm_sz x))
  | .tag j x, p => .tag j (tm_ct x (p - 1))
  | t, _ => t
theorem tm_ct_0 (j : Nat) (a b : Std.Format) : tm_ct (.append (.tag j a) b) 0 = tm_sub (-1 - (j : Int)) b a := rfl
theorem tm_ct_l (x y : Std.Format) {p : Nat} (h : p < tm_sz x) : tm_ct (.append x y) (p + 1) = .append (tm_ct x p) y := by
  show (if p + 1 = 0 then _ else if p + 1 - 1 < tm_sz x then _ else _) = _
  rw [if_neg (by omega), if_pos (by omega)]
  rfl
theorem tm_ct_r (x y : Std.Format) {p : Nat} : tm_ct (.append x y) (tm_sz x + p + 1) = .append x (tm_ct y p) := by
  show (if tm_sz x + p + 1 = 0 then _ else if tm_sz x + p + 1 - 1 < tm_sz x then _ else _) = _
  rw [if_neg (by omega), if_neg (by omega), show tm_sz x + p + 1 - 1 - tm_sz x = p by omega]
theorem tm_ct_f (j : Nat) (x : Std.Format) (p : Nat) : tm_ct (.tag j x) (p + 1) = .tag j (tm_ct x p) := rfl
theorem tm_hole (t : Std.Format) : ∀ p, p < tm_sz t → ∃ (u : Std.Format) (C : Std.Format → Std.Format) (F : List Nat), C u = t ∧ (p + tm_sz u ≤ tm_sz t ∧ tm_dp u ≤ tm_dp t) ∧
    (∀ fa ff fl z E, tm_ln fa ff fl (C z) E = (tm_ln fa ff fl t E).take p ++ (tm_ln fa ff fl z (F ++ E) ++ (tm_ln fa ff fl t E).drop (p + tm_sz u))) ∧
    (∀ E, tm_sc t E → tm_sc u (F ++ E) ∧ ∀ z, tm_sc z (F ++ E) → tm_sc (C z) E) ∧
    (∀ k, tm_cn t k → ∃ k', k ≤ k' ∧ tm_cn u k' ∧ ∀ v ∈ F, k ≤ v ∧ v < k') ∧
    (∀ j a b, u = .append (.tag j a) b → tm_ct t p = C (tm_sub (-1 - (j : Int)) b a)) := by
  have top : ∀ t : Std.Format, ∃ (u : Std.Format) (C : Std.Format → Std.Format) (F : List Nat), C u = t ∧ (0 + tm_sz u ≤ tm_sz t ∧ tm_dp u ≤ tm_dp t) ∧
    (∀ fa ff fl z E, tm_ln fa ff fl (C z) E = (tm_ln fa ff fl t E).take 0 ++ (tm_ln fa ff fl z (F ++ E) ++ (tm_ln fa ff fl t E).drop (0 + tm_sz u))) ∧
    (∀ E, tm_sc t E → tm_sc u (F ++ E) ∧ ∀ z, tm_sc z (F ++ E) → tm_sc (C z) E) ∧
    (∀ k, tm_cn t k → ∃ k', k ≤ k' ∧ tm_cn u k' ∧ ∀ v ∈ F, k ≤ v ∧ v < k') ∧
    (∀ j a b, u = .append (.tag j a) b → tm_ct t 0 = C (tm_sub (-1 - (j : Int)) b a)) := by
    intro t
    refine ⟨t, fun z => z, [], rfl, ⟨by omega, Nat.le_refl _⟩, fun fa ff fl z E => ?_, fun E h => ⟨h, fun z h => h⟩, fun k h => ⟨k, Nat.le_refl _, h, fun v q => by cases q⟩, fun j a b h => by rw [h]; rfl⟩
    have h1 : (tm_ln fa ff fl t E).drop (0 + tm_sz t) = [] := by
      apply List.drop_eq_nil_of_le
      rw [tm_ln_len]
      omega
    rw [h1]
    simp
  induction t using tm_ind with
  | hl t h =>
    intro p hp
    rw [tm_sz_leaf h] at hp
    have : p = 0 := by omega
    subst this
    exact top t
  | hf j a ih =>
    intro p hp
    cases p with
    | zero => exact top _
    | succ p =>
      have hp : p + 1 < 1 + tm_sz a := hp
      obtain ⟨u, C, F, h1, ⟨h2, hdp⟩, h3, h4, h5, h6⟩ := ih p (by omega)
      refine ⟨u, fun z => .tag j (C z), F ++ [j], by show _ = _; simp only [h1], ⟨by show p + 1 + tm_sz u ≤ 1 + tm_sz a; omega, by rw [tm_dp_f]; omega⟩, fun fa ff fl z E => ?_, fun E h => ?_, fun k h => ?_, fun i x y h => ?_⟩
      · rw [tm_ln_fun, tm_ln_fun, h3, List.append_assoc F [j] E, show p + 1 + tm_sz u = (p + tm_sz u) + 1 by omega, List.take_succ_cons, List.drop_succ_cons]
        rfl
      · rw [List.append_assoc F [j] E]
        exact h4 (j :: E) h
      · obtain ⟨rfl, h⟩ := h
        obtain ⟨k', q1, q2, q3⟩ := h5 _ h
        refine ⟨k', by omega, q2, fun v hv => ?_⟩
        rcases List.mem_append.mp hv with q | q
        · have := q3 v q
          omega
        · have : v = j := by simpa using q
          omega
      · rw [tm_ct_f, h6 i x y h]
  | ha a b iha ihb =>
    intro p hp
    cases p with
    | zero => exact top _
    | succ p =>
      have hp : p + 1 < 1 + tm_sz a + tm_sz b := hp
      by_cases hpa : p < tm_sz a
      · obtain ⟨u, C, F, h1, ⟨h2, hdp⟩, h3, h4, h5, h6⟩ := iha p hpa
        refine ⟨u, fun z => .append (C z) b, F, by show _ = _; simp only [h1], ⟨by show p + 1 + tm_sz u ≤ 1 + tm_sz a + tm_sz b; omega, by rw [tm_dp_a]; omega⟩, fun fa ff fl z E => ?_, fun E h => ?_, fun k h => ?_, fun i x y h => ?_⟩
        · have hlen := tm_ln_len (fa := fa) (ff := ff) (fl := fl) a E
          rw [tm_ln_app, tm_ln_app, h3, show p + 1 + tm_sz u = (p + tm_sz u) + 1 by omega, List.take_succ_cons, List.drop_succ_cons, List.take_append_of_le_length (by omega), List.drop_append_of_le_length (by omega)]
          simp [List.append_assoc]
        · exact ⟨(h4 E h.1).1, fun z hz => ⟨(h4 E h.1).2 z hz, h.2⟩⟩
        · exact h5 k h.1
        · rw [tm_ct_l _ _ hpa, h6 i x y h]
      · obtain ⟨q, rfl⟩ : ∃ q, p = tm_sz a + q := ⟨p - tm_sz a, by omega⟩
        obtain ⟨u, C, F, h1, ⟨h2, hdp⟩, h3, h4, h5, h6⟩ := ihb q (by omega)
        refine ⟨u, fun z => .append a (C z), F, by show _ = _; simp only [h1], ⟨by show tm_sz a + q + 1 + tm_sz u ≤ 1 + tm_sz a + tm_sz b; omega, by rw [tm_dp_a]; omega⟩, fun fa ff fl z E => ?_, fun E h => ?_, fun k h => ?_, fun i x y h => ?_⟩
        · have hlen := tm_ln_len (fa := fa) (ff := ff) (fl := fl) a E
          rw [tm_ln_app, tm_ln_app, h3, show tm_sz a + q + 1 + tm_sz u = (tm_sz a + (q + tm_sz u)) + 1 by omega, List.take_succ_cons, List.drop_succ_cons, ← hlen, List.take_length_add_append, List.drop_length_add_append]
          simp [List.append_assoc]
        · exact ⟨(h4 E h.2).1, fun z hz => ⟨h.1, (h4 E h.2).2 z hz⟩⟩
        · obtain ⟨k', q1, q2, q3⟩ := h5 _ h.2
          exact ⟨k', by omega, q2, fun v hv => by have := q3 v hv; omega⟩
        · rw [tm_ct_r, h6 i x y h]
end
section
/-! terms, third part: kinds, ends, depth, counts, the text -/
def tm_kc (x : Int) : Int := if x = -1 then 2 else if x = -2 then 1 else 0
def tm_kr (x : Int) : Int := if x = 1000 then 2 else if 2000 ≤ x then 1 else 0
theorem tm_kc_leaf {x : Int} (h : 0 ≤ x) : tm_kc x = 0 := by
  have h1 : ¬ x = -1 := by omega
  have h2 : ¬ x = -2 := by omega
  simp [tm_kc, h1, h2]
theorem tm_db_ks (t : Std.Format) : ∀ E, (tm_db t E).map tm_kc = tm_ks t := by
  induction t using tm_ind with
  | hl t h => intro E; rw [tm_db_leaf h, tm_ks_leaf h]; simp [tm_kc_leaf (tm_lc_nn _ _)]
  | hf j a ih => intro E; rw [tm_db_fun, tm_ks_fun, List.map_cons, ih]; rfl
  | ha a b iha ihb => intro E; rw [tm_db_app, tm_ks_app, List.map_cons, List.map_append, iha, ihb]; rfl
theorem tm_row_ks (t : Std.Format) : ∀ E, tm_sc t E → (tm_row t).map tm_kr = tm_ks t := by
  induction t using tm_ind with
  | hl t h =>
    intro E hs
    rw [tm_sc_leaf h] at hs
    rw [tm_row_leaf h, tm_ks_leaf h]
    have h1 : ¬ tm_val t = 1000 := by omega
    have h2 : ¬ 2000 ≤ tm_val t := by omega
    simp [tm_kr, h1, h2]
  | hf j a ih =>
    intro E hs
    rw [tm_row_fun, tm_ks_fun, List.map_cons, ih _ hs]
    have h1 : ¬ (2000 + (j : Int)) = 1000 := by omega
    have h2 : 2000 ≤ 2000 + (j : Int) := by omega
    simp [tm_kr, h1, h2]
  | ha a b iha ihb => intro E hs; rw [tm_row_app, tm_ks_app, List.map_cons, List.map_append, iha _ hs.1, ihb _ hs.2]; rfl
/-- how far the part goes that begins here -/
def tm_en (f : Int → Int) : List Int → Nat → Nat
  | [], _ => 0
  | _ :: _, 0 => 0
  | x :: L, d + 1 => 1 + tm_en f L (d + (f x).toNat)
theorem tm_en_0 (f : Int → Int) (L : List Int) : tm_en f L 0 = 0 := by cases L <;> rfl
theorem tm_en_map (f : Int → Int) (L : List Int) : ∀ d, tm_en f L d = tm_en (fun x => x) (L.map f) d := by
  induction L with
  | nil => intro d; rfl
  | cons x L ih =>
    intro d
    cases d with
    | zero => rfl
    | succ d => show 1 + _ = 1 + _; rw [ih]
theorem tm_en_ks (t : Std.Format) : ∀ r d, tm_en (fun x => x) (tm_ks t ++ r) (d + 1) = tm_sz t + tm_en (fun x => x) r d := by
  induction t using tm_ind with
  | hl t h => intro r d; rw [tm_ks_leaf h, tm_sz_leaf h]; rfl
  | hf j a ih =>
    intro r d
    rw [tm_ks_fun]
    show 1 + tm_en _ (tm_ks a ++ r) (d + 1) = 1 + tm_sz a + _
    rw [ih]
    omega
  | ha a b iha ihb =>
    intro r d
    rw [tm_ks_app]
    show 1 + tm_en _ ((tm_ks a ++ tm_ks b) ++ r) (d + 1 + 1) = 1 + tm_sz a + tm_sz b + _
    rw [List.append_assoc, iha, ihb]
    omega
theorem tm_en_db (t : Std.Format) (E : List Nat) (r : List Int) : tm_en tm_kc (tm_db t E ++ r) 1 = tm_sz t := by
  rw [tm_en_map, List.map_append, tm_db_ks, tm_en_ks, tm_en_0]
  omega
theorem tm_en_row {t : Std.Format} {E : List Nat} (hs : tm_sc t E) (r : List Int) : tm_en tm_kr (tm_row t ++ r) 1 = tm_sz t := by
  rw [tm_en_map, List.map_append, tm_row_ks t E hs, tm_en_ks, tm_en_0]
  omega
/-- the class's depth -/
def tm_dd : List Int → List Nat × Nat → Nat → Nat
  | [], _, d => d
  | x :: L, s, d => if d < 150 then tm_dd L (tm_wk 1 1 s x) (max d s.2) else d
theorem tm_dd_ge (L : List Int) : ∀ s d, d ≤ tm_dd L s d := by
  induction L with
  | nil => intro s d; exact Nat.le_refl _
  | cons x L ih =>
    intro s d
    show d ≤ if _ then _ else _
    split
    · have := ih (tm_wk 1 1 s x) (max d s.2)
      omega
    · omega
theorem tm_dd_cons (x : Int) (L : List Int) (s : List Nat × Nat) {d : Nat} (h : d < 150) : tm_dd (x :: L) s d = tm_dd L (tm_wk 1 1 s x) (max d s.2) := if_pos h
theorem tm_dd_db (t : Std.Format) : ∀ E h c d r, h.length ≤ c → d < 150 → (c + tm_dp t ≤ 150 → tm_dd (tm_db t E ++ r) (h, c) d = tm_dd r (tm_pop h) (max d (c + tm_dp t - 1))) ∧ (150 < c + tm_dp t → 150 ≤ tm_dd (tm_db t E ++ r) (h, c) d) := by
  induction t using tm_ind with
  | hl t hl =>
    intro E h c d r hh hd
    rw [tm_db_leaf hl, tm_dp_leaf hl]
    show (_ → tm_dd (_ :: r) _ _ = _) ∧ (_ → _ ≤ tm_dd (_ :: r) _ _)
    rw [tm_dd_cons _ _ _ hd, tm_wk_l _ _ _ (tm_lc_nn _ _)]
    refine ⟨fun _ => ?_, fun q => ?_⟩
    · rfl
    · have := tm_dd_ge r (tm_pop h) (max d c)
      show 150 ≤ tm_dd r (tm_pop h) (max d c)
      omega
  | hf j a ih =>
    intro E h c d r hh hd
    rw [tm_db_fun, tm_dp_f]
    show (_ → tm_dd (_ :: (tm_db a (j :: E) ++ r)) _ _ = _) ∧ (_ → _ ≤ tm_dd (_ :: (tm_db a (j :: E) ++ r)) _ _)
    rw [tm_dd_cons _ _ _ hd, tm_wk_f]
    show (_ → tm_dd _ (h, c + 1) (max d c) = _) ∧ (_ → _ ≤ tm_dd _ (h, c + 1) (max d c))
    by_cases hc : c < 150
    · have h1 := ih (j :: E) h (c + 1) (max d c) r (by omega) (by omega)
      have h2 := tm_dp_pos a
      refine ⟨fun q => ?_, fun q => h1.2 (by omega)⟩
      rw [h1.1 (by omega)]
      congr 1
      omega
    · have h2 := tm_dp_pos a
      refine ⟨fun q => by omega, fun q => ?_⟩
      have := tm_dd_ge (tm_db a (j :: E) ++ r) (h, c + 1) (max d c)
      omega
  | ha a b iha ihb =>
    intro E h c d r hh hd
    have ha2 := tm_dp_pos a
    have hb2 := tm_dp_pos b
    rw [tm_db_app, tm_dp_a]
    show (_ → tm_dd (_ :: ((tm_db a E ++ tm_db b E) ++ r)) _ _ = _) ∧ (_ → _ ≤ tm_dd (_ :: ((tm_db a E ++ tm_db b E) ++ r)) _ _)
    rw [tm_dd_cons _ _ _ hd]
    by_cases hc : c < 150
    · rw [tm_wk_a _ _ (by omega), List.append_assoc]
      show (_ → tm_dd _ ((c + 1) :: h, c + 1) (max d c) = _) ∧ (_ → _ ≤ tm_dd _ ((c + 1) :: h, c + 1) (max d c))
      have h1 := iha E ((c + 1) :: h) (c + 1) (max d c) (tm_db b E ++ r) (by simp; omega) (by omega)
      by_cases hca : c + 1 + tm_dp a ≤ 150
      · rw [h1.1 hca]
        show (_ → tm_dd _ (h, c + 1) _ = _) ∧ (_ → _ ≤ tm_dd _ (h, c + 1) _)
        have h3 := ihb E h (c + 1) (max (max d c) (c + 1 + tm_dp a - 1)) r (by omega) (by omega)
        refine ⟨fun q => ?_, fun q => h3.2 (by omega)⟩
        rw [h3.1 (by omega)]
        congr 1
        omega
      · exact ⟨fun q => by omega, fun q => h1.2 (by omega)⟩
    · refine ⟨fun q => by omega, fun q => ?_⟩
      have := tm_dd_ge ((tm_db a E ++ tm_db b E) ++ r) (tm_wk 1 1 (h, c) (-1)) (max d c)
      show 150 ≤ tm_dd _ _ (max d c)
      omega
theorem tm_dd_dp (t : Std.Format) (E : List Nat) : (tm_dp t ≤ 150 → tm_dd (tm_db t E) ([], 0) 0 + 1 = tm_dp t) ∧ (150 < tm_dp t → 150 < tm_dd (tm_db t E) ([], 0) 0 + 1) := by
  have h := tm_dd_db t E [] 0 0 [] (Nat.le_refl _) (by omega)
  have h1 := tm_dp_pos t
  rw [List.append_nil] at h
  refine ⟨fun q => ?_, fun q => ?_⟩
  · rw [h.1 (by omega)]
    show max 0 (0 + tm_dp t - 1) + 1 = _
    omega
  · have := h.2 (by omega)
    omega
/-- the text -/
def tm_dg (n : Int) : List Int := (if 10 ≤ n then [48 + n / 10] else []) ++ [48 + n % 10]
def tm_tx : Std.Format → List Nat → List Int
  | .append a b, E => 40 :: (tm_tx a E ++ 32 :: (tm_tx b E ++ [41]))
  | .tag j a, E => 46 :: tm_tx a (j :: E)
  | t, E => if 0 ≤ tm_val t then tm_dg (tm_val t) else List.replicate (tm_ix (-1 - tm_val t).toNat E + 1) 39
theorem tm_tx_leaf {t : Std.Format} (h : tm_leaf t = true) (E : List Nat) : tm_tx t E = if 0 ≤ tm_val t then tm_dg (tm_val t) else List.replicate (tm_ix (-1 - tm_val t).toNat E + 1) 39 := by cases t <;> first | rfl | cases h
theorem tm_tx_app (a b : Std.Format) (E : List Nat) : tm_tx (.append a b) E = 40 :: (tm_tx a E ++ 32 :: (tm_tx b E ++ [41])) := rfl
theorem tm_tx_fun (j : Nat) (a : Std.Format) (E : List Nat) : tm_tx (.tag j a) E = 46 :: tm_tx a (j :: E) := rfl
def tm_lf (x : Int) : List Int := if 99 < x then List.replicate (x - 99).toNat 39 else tm_dg x
def tm_s1 (x : Int) (k : Nat) (last : Bool) : List Int := if x = -1 then [40] else if x = -2 then [46] else tm_lf x ++ (List.replicate k 41 ++ if last = true then [] else [32])
def tm_sh : List Int → List Nat × Nat → List Int
  | [], _ => []
  | x :: L, s => tm_s1 x (s.2 - (tm_wk 1 0 s x).2) L.isEmpty ++ tm_sh L (tm_wk 1 0 s x)
theorem tm_sh_cons (x : Int) (L : List Int) (s : List Nat × Nat) : tm_sh (x :: L) s = tm_s1 x (s.2 - (tm_wk 1 0 s x).2) L.isEmpty ++ tm_sh L (tm_wk 1 0 s x) := rfl
theorem tm_s1_leaf {x : Int} (h : 0 ≤ x) (k : Nat) (last : Bool) : tm_s1 x k last = tm_lf x ++ (List.replicate k 41 ++ if last = true then [] else [32]) := by
  have h1 : ¬ x = -1 := by omega
  have h2 : ¬ x = -2 := by omega
  simp [tm_s1, h1, h2]
theorem tm_lf_lc (t : Std.Format) (h : tm_leaf t = true) (E : List Nat) (hs : tm_sc t E) : tm_lf (tm_lc E (tm_val t)) = tm_tx t E := by
  rw [tm_tx_leaf h]
  rw [tm_sc_leaf h] at hs
  unfold tm_lf
  rcases hs with hs | ⟨h1, h2⟩
  · rw [tm_lc_free hs.1, if_neg (by omega), if_pos hs.1]
  · rw [tm_lc_var h1, if_pos (by omega), if_neg (by omega)]
    congr 1
    omega
theorem tm_db_ne (t : Std.Format) (E : List Nat) (r : List Int) : (tm_db t E ++ r).isEmpty = false := by
  have h1 := tm_db_len t E
  have h2 := tm_sz_pos t
  cases hd : tm_db t E with
  | nil => rw [hd] at h1; simp at h1; omega
  | cons x L => rfl
theorem tm_sh_db (t : Std.Format) : ∀ E h c r, h.length + tm_dp t ≤ 151 → tm_sc t E → (tm_pop h).2 ≤ c →
    tm_sh (tm_db t E ++ r) (h, c) = tm_tx t E ++ (List.replicate (c - (tm_pop h).2) 41 ++ ((if r.isEmpty = true then [] else [32]) ++ tm_sh r (tm_pop h))) := by
  induction t using tm_ind with
  | hl t hl =>
    intro E h c r hh hs hc
    rw [tm_db_leaf hl]
    show tm_sh (_ :: r) _ = _
    rw [tm_sh_cons, tm_wk_l _ _ _ (tm_lc_nn _ _), tm_s1_leaf (tm_lc_nn _ _), tm_lf_lc t hl E hs]
    simp [List.append_assoc]
  | hf j a ih =>
    intro E h c r hh hs hc
    rw [tm_dp_f] at hh
    rw [tm_db_fun, tm_tx_fun]
    show tm_sh (_ :: (tm_db a (j :: E) ++ r)) _ = _
    rw [tm_sh_cons, tm_wk_f]
    show tm_s1 (-2) _ _ ++ tm_sh _ (h, c) = _
    rw [ih (j :: E) h c r (by omega) hs hc]
    rfl
  | ha a b iha ihb =>
    intro E h c r hh hs hc
    rw [tm_dp_a] at hh
    have hx := tm_dp_pos a
    rw [tm_db_app, tm_tx_app]
    show tm_sh (_ :: ((tm_db a E ++ tm_db b E) ++ r)) _ = _
    rw [tm_sh_cons, tm_wk_a _ _ (by omega), List.append_assoc, iha E ((c + 1) :: h) (c + 1) (tm_db b E ++ r) (by simp; omega) hs.1 (Nat.le_refl _)]
    show tm_s1 (-1) _ _ ++ (tm_tx a E ++ (List.replicate (c + 1 - (c + 1)) 41 ++ (_ ++ tm_sh (tm_db b E ++ r) (h, c + 1)))) = _
    rw [ihb E h (c + 1) r (by omega) hs.2 (by omega), tm_db_ne b E r, Nat.sub_self, show c + 1 - (tm_pop h).2 = (c - (tm_pop h).2) + 1 by omega, List.replicate_succ]
    show [40] ++ _ = _
    simp [List.append_assoc]
theorem tm_sh_tx {t : Std.Format} (hd : tm_dp t ≤ 150) (hs : tm_sc t []) : tm_sh (tm_db t []) ([], 0) = tm_tx t [] := by
  have h := tm_sh_db t [] [] 0 [] (by simp; omega) hs (Nat.le_refl _)
  rw [List.append_nil] at h
  rw [h]
  simp [tm_sh, tm_pop]
theorem tm_tx_len (t : Std.Format) : ∀ E, E.length + tm_dp t ≤ 150 → tm_sc t E → (tm_tx t E).length ≤ tm_sz t * 150 := by
  induction t using tm_ind with
  | hl t hl =>
    intro E hE hs
    rw [tm_dp_leaf hl] at hE
    rw [tm_tx_leaf hl, tm_sz_leaf hl]
    rw [tm_sc_leaf hl] at hs
    rcases hs with hs | ⟨h1, h2⟩
    · rw [if_pos hs.1]
      unfold tm_dg
      split <;> simp
    · rw [if_neg (by omega), List.length_replicate]
      have := tm_ix_in h2
      omega
  | hf j a ih =>
    intro E hE hs
    rw [tm_dp_f] at hE
    rw [tm_tx_fun]
    have h1 := ih (j :: E) (by simp; omega) hs
    show _ + 1 ≤ (1 + tm_sz a) * 150
    omega
  | ha a b iha ihb =>
    intro E hE hs
    rw [tm_dp_a] at hE
    rw [tm_tx_app]
    have h1 := iha E (by omega) hs.1
    have h2 := ihb E (by omega) hs.2
    show (tm_tx a E ++ 32 :: (tm_tx b E ++ [41])).length + 1 ≤ (1 + tm_sz a + tm_sz b) * 150
    simp only [List.length_append, List.length_cons, List.length_nil]
    omega
theorem tm_count (n : Int) (h0 : 0 ≤ n) (h9 : n ≤ 99) (t : Std.Format) : ∀ E, tm_sc t E → (tm_db t E).count n = (tm_row t).count n := by
  induction t using tm_ind with
  | hl t hl =>
    intro E hs
    rw [tm_db_leaf hl, tm_row_leaf hl]
    rw [tm_sc_leaf hl] at hs
    rcases hs with hs | ⟨h1, h2⟩
    · rw [tm_lc_free hs.1]
    · have h3 : ¬ tm_lc E (tm_val t) = n := by rw [tm_lc_var h1]; omega
      have h4 : ¬ tm_val t = n := by omega
      simp [List.count_cons, h3, h4]
  | hf j a ih =>
    intro E hs
    have h1 : ¬ (-2 : Int) = n := by omega
    have h2 : ¬ (2000 + (j : Int)) = n := by omega
    rw [tm_db_fun, tm_row_fun, List.count_cons, List.count_cons, ih _ hs]
    simp [h1, h2]
  | ha a b iha ihb =>
    intro E hs
    have h1 : ¬ (-1 : Int) = n := by omega
    have h2 : ¬ (1000 : Int) = n := by omega
    rw [tm_db_app, tm_row_app, List.count_cons, List.count_cons, List.count_append, List.count_append, iha _ hs.1, ihb _ hs.2]
    simp [h1, h2]
end
section
/-! terms, fourth part: what the calls make of terms -/
def tm_ok (t : Std.Format) : Prop := tm_sc t [] ∧ tm_cn t 0 ∧ tm_sz t ≤ 2000 ∧ tm_dp t ≤ 150
def tm_chk (X : Std.Format) : Option Std.Format := if tm_sz X ≤ 2000 ∧ tm_dp X ≤ 150 then some (tm_can X) else none
theorem tm_chk_ok {X t : Std.Format} (hs : tm_sc X []) (h : tm_chk X = some t) : tm_ok t ∧ tm_db t [] = tm_db X [] ∧ t = tm_can X ∧ tm_sz X ≤ 2000 ∧ tm_dp X ≤ 150 := by
  unfold tm_chk at h
  by_cases hc : tm_sz X ≤ 2000 ∧ tm_dp X ≤ 150
  · rw [if_pos hc] at h
    have h1 := (Option.some.inj h).symm
    subst h1
    refine ⟨⟨tm_can_sc hs, tm_rn_cn X _ 0, ?_, ?_⟩, tm_can_db hs, rfl, hc⟩
    · show tm_sz (tm_rn X _ 0) ≤ 2000
      rw [tm_rn_sz]; exact hc.1
    · show tm_dp (tm_rn X _ 0) ≤ 150
      rw [tm_rn_dp]; exact hc.2
  · rw [if_neg hc] at h
    cases h
theorem tm_chk_no {X : Std.Format} (h : tm_chk X = none) : 2000 < tm_sz X ∨ 150 < tm_dp X := by
  unfold tm_chk at h
  by_cases hc : tm_sz X ≤ 2000 ∧ tm_dp X ≤ 150
  · rw [if_pos hc] at h
    cases h
  · omega
/-- a place where there is a STEP -/
def tm_rx (t : Std.Format) (p : Nat) : Prop := (tm_ks t)[p]? = some 2 ∧ (tm_ks t)[p + 1]? = some 1
theorem tm_rx_lt {t : Std.Format} {p : Nat} (h : tm_rx t p) : p + 1 < tm_sz t := by
  have := (List.getElem?_eq_some_iff.mp h.2).1
  rw [tm_ks_len] at this
  exact this
theorem tm_kc_2 {x : Int} (h : tm_kc x = 2) : x = -1 := by
  unfold tm_kc at h
  split at h
  · assumption
  · split at h <;> omega
theorem tm_kc_1 {x : Int} (h : tm_kc x = 1) : x = -2 := by
  unfold tm_kc at h
  split at h
  · omega
  · split at h
    · assumption
    · omega
theorem tm_kr_2 {x : Int} (h : tm_kr x = 2) : x = 1000 := by
  unfold tm_kr at h
  split at h
  · assumption
  · split at h <;> omega
theorem tm_kr_1 {x : Int} (h : tm_kr x = 1) : 2000 ≤ x := by
  unfold tm_kr at h
  split at h
  · omega
  · split at h
    · assumption
    · omega
theorem tm_rx_db (t : Std.Format) (E : List Nat) (p : Nat) : tm_rx t p ↔ ((tm_db t E)[p]? = some (-1) ∧ (tm_db t E)[p + 1]? = some (-2)) := by
  unfold tm_rx
  rw [← tm_db_ks t E, List.getElem?_map, List.getElem?_map]
  constructor
  · rintro ⟨h1, h2⟩
    cases ha : (tm_db t E)[p]? with
    | none => rw [ha] at h1; cases h1
    | some x =>
      cases hb : (tm_db t E)[p + 1]? with
      | none => rw [hb] at h2; cases h2
      | some z =>
        rw [ha] at h1
        rw [hb] at h2
        have e1 := tm_kc_2 (Option.some.inj h1)
        have e2 := tm_kc_1 (Option.some.inj h2)
        exact ⟨by rw [e1], by rw [e2]⟩
  · rintro ⟨h1, h2⟩
    rw [h1, h2]
    exact ⟨rfl, rfl⟩
theorem tm_rx_row (t : Std.Format) {E : List Nat} (hs : tm_sc t E) (p : Nat) : tm_rx t p ↔ ((tm_row t)[p]? = some 1000 ∧ ∃ x, (tm_row t)[p + 1]? = some x ∧ 2000 ≤ x) := by
  unfold tm_rx
  rw [← tm_row_ks t E hs, List.getElem?_map, List.getElem?_map]
  constructor
  · rintro ⟨h1, h2⟩
    cases ha : (tm_row t)[p]? with
    | none => rw [ha] at h1; cases h1
    | some x =>
      cases hb : (tm_row t)[p + 1]? with
      | none => rw [hb] at h2; cases h2
      | some z =>
        rw [ha] at h1
        rw [hb] at h2
        have e1 := tm_kr_2 (Option.some.inj h1)
        have e2 := tm_kr_1 (Option.some.inj h2)
        exact ⟨by rw [e1], z, rfl, e2⟩
  · rintro ⟨h1, x, h2, h3⟩
    rw [h1, h2]
    refine ⟨rfl, ?_⟩
    have h4 : ¬ x = 1000 := by omega
    show some (tm_kr x) = some 1
    simp [tm_kr, h4, h3]
theorem tm_head2 {u : Std.Format} {E : List Nat} {r : List Int} (h1 : (tm_db u E ++ r)[0]? = some (-1)) (h2 : (tm_db u E ++ r)[1]? = some (-2)) : ∃ j a b, u = .append (.tag j a) b := by
  rcases tm_cases u with hu | ⟨j, a, rfl⟩ | ⟨a, b, rfl⟩
  · rw [tm_db_leaf hu] at h1
    have h3 := tm_lc_nn E (tm_val u)
    have : tm_lc E (tm_val u) = -1 := by simpa using h1
    omega
  · rw [tm_db_fun] at h1
    have : (-2 : Int) = -1 := by simpa using h1
    omega
  · rw [tm_db_app] at h2
    rcases tm_cases a with ha | ⟨j, x, rfl⟩ | ⟨x, y, rfl⟩
    · rw [tm_db_leaf ha] at h2
      have h3 := tm_lc_nn E (tm_val a)
      have : tm_lc E (tm_val a) = -2 := by simpa using h2
      omega
    · exact ⟨j, x, b, rfl⟩
    · rw [tm_db_app] at h2
      have : (-1 : Int) = -2 := by simpa using h2
      omega
/-- the STEP, in the class's rows and in the reference's -/
theorem tm_step {t : Std.Format} (hok : tm_ok t) {p : Nat} (hp : tm_rx t p) : ∃ (j : Nat) (a b : Std.Format) (F : List Nat) (pre post pre' post' : List Int),
    pre.length = p ∧ pre'.length = p ∧
    tm_db t [] = pre ++ (-1 :: -2 :: (tm_db a (j :: F) ++ (tm_db b F ++ post))) ∧
    tm_row t = pre' ++ (1000 :: (2000 + (j : Int)) :: (tm_row a ++ (tm_row b ++ post'))) ∧
    tm_db (tm_ct t p) [] = pre ++ (tm_fl 0 1 (tm_gf (fun c => tm_fl 0 1 (tm_gr c) (tm_db b F) ([], 0))) (tm_db a (j :: F)) ([], 0) ++ post) ∧
    tm_row (tm_ct t p) = pre' ++ ((tm_row a).flatMap (fun x => if x = -1 - (j : Int) then tm_row b else [x]) ++ post') ∧
    tm_sc (tm_ct t p) [] ∧ tm_sc a (j :: F) ∧ tm_sc b F ∧ tm_dp a ≤ 148 ∧ tm_dp b ≤ 149 := by
  obtain ⟨hs, hc, hz, hd⟩ := hok
  have hlt := tm_rx_lt hp
  obtain ⟨u, C, F, h1, ⟨h2, hdp⟩, h3, h4, h5, h6⟩ := tm_hole t p (by omega)
  have hdb : ∀ z, tm_db (C z) [] = (tm_db t []).take p ++ (tm_db z F ++ (tm_db t []).drop (p + tm_sz u)) := fun z => by
    have := h3 (-1) (fun _ => -2) tm_lc z []
    rw [List.append_nil] at this
    exact this
  have hrw : ∀ z, tm_row (C z) = (tm_row t).take p ++ (tm_row z ++ (tm_row t).drop (p + tm_sz u)) := fun z => by
    have := h3 1000 (fun j => 2000 + (j : Int)) (fun _ n => n) z []
    rw [List.append_nil, tm_ln_env (g := fun n => n) z F] at this
    exact this
  have hlen : ((tm_db t []).take p).length = p := by
    rw [List.length_take, tm_db_len]
    omega
  have hlen' : ((tm_row t).take p).length = p := by
    rw [List.length_take, tm_row_len]
    omega
  obtain ⟨q1, q2⟩ := (tm_rx_db t [] p).mp hp
  have hu := hdb u
  rw [h1] at hu
  rw [hu, List.getElem?_append_right (by omega), hlen, Nat.sub_self] at q1
  rw [hu, List.getElem?_append_right (by omega), hlen, Nat.add_sub_cancel_left] at q2
  obtain ⟨j, a, b, rfl⟩ := tm_head2 q1 q2
  have hsc := (h4 [] hs).1
  rw [List.append_nil] at hsc
  obtain ⟨hsa, hsb⟩ := hsc
  have hsa : tm_sc a (j :: F) := hsa
  obtain ⟨k', k1, k2, k3⟩ := h5 0 hc
  obtain ⟨⟨rfl, kca⟩, kcb⟩ := k2
  have hfn := tm_cn_fn a _ kca
  rw [tm_dp_a, tm_dp_f] at hdp
  have hsub : tm_db (tm_sub (-1 - (j : Int)) b a) F = tm_fl 0 1 (tm_gf (fun c => tm_fl 0 1 (tm_gr c) (tm_db b F) ([], 0))) (tm_db a (j :: F)) ([], 0) := by
    have h8 := tm_fill (fun c => tm_fl 0 1 (tm_gr c) (tm_db b F) ([], 0)) b j F (fun G hG => ?_) a [] [] (by simp; omega) hsa (by simp) (by simp) (fun n hn => ?_)
    · rw [List.nil_append] at h8
      exact h8.symm
    · have h9 := tm_raise G.length b G F rfl hG [] [] (by simp; omega) hsb
      exact h9
    · have := hfn n hn
      refine ⟨by omega, fun q => ?_⟩
      have := k3 n q
      omega
  refine ⟨j, a, b, F, (tm_db t []).take p, (tm_db t []).drop (p + tm_sz (.append (.tag j a) b)), (tm_row t).take p, (tm_row t).drop (p + tm_sz (.append (.tag j a) b)), hlen, hlen', ?_, ?_, ?_, ?_, ?_, hsa, hsb, by omega, by omega⟩
  · refine hu.trans ?_
    rw [tm_db_app, tm_db_fun]
    simp [List.append_assoc]
  · have hr := hrw (.append (.tag j a) b)
    rw [h1] at hr
    refine hr.trans ?_
    rw [tm_row_app, tm_row_fun]
    simp [List.append_assoc]
  · rw [h6 j a b rfl, hdb, hsub]
  · rw [h6 j a b rfl, hrw, tm_row_sub (by omega)]
  · rw [h6 j a b rfl]
    refine (h4 [] hs).2 _ ?_
    rw [List.append_nil]
    have := tm_sub_sc (-1 - (j : Int)) b F hsb (j :: F) (fun v hv => ?_) a [] hsa
    · exact this
    · rcases List.mem_cons.mp hv with q | q
      · exact Or.inr (by rw [q])
      · exact Or.inl q
/-- the first STEP's place; that of the HEAD -/
def tm_f1 : List Int → Option Nat
  | x :: y :: L => if x = 2 ∧ y = 1 then some 0 else (tm_f1 (y :: L)).map (· + 1)
  | _ => none
def tm_h1 : List Int → Option Nat
  | x :: y :: L => if x = 2 then (if y = 1 then some 0 else (tm_h1 (y :: L)).map (· + 1)) else none
  | _ => none
theorem tm_f1_some (K : List Int) : ∀ p, tm_f1 K = some p → (K[p]? = some 2 ∧ K[p + 1]? = some 1) ∧ ∀ q, q < p → ¬ (K[q]? = some 2 ∧ K[q + 1]? = some 1) := by
  induction K with
  | nil => intro p h; cases h
  | cons x K ih =>
    intro p h
    cases K with
    | nil => cases h
    | cons y L =>
      have h : (if x = 2 ∧ y = 1 then some 0 else (tm_f1 (y :: L)).map (· + 1)) = some p := h
      by_cases hc : x = 2 ∧ y = 1
      · rw [if_pos hc] at h
        have := Option.some.inj h
        subst this
        exact ⟨by simp [hc.1, hc.2], fun q hq => by omega⟩
      · rw [if_neg hc] at h
        cases hf : tm_f1 (y :: L) with
        | none => rw [hf] at h; cases h
        | some p' =>
          rw [hf] at h
          have hp : p = p' + 1 := (Option.some.inj h).symm
          subst hp
          obtain ⟨h1, h2⟩ := ih p' hf
          refine ⟨by simpa using h1, fun q hq => ?_⟩
          cases q with
          | zero => simpa using hc
          | succ q => simpa using h2 q (by omega)
theorem tm_f1_none (K : List Int) : tm_f1 K = none → ∀ q : Nat, ¬ (K[q]? = some 2 ∧ K[q + 1]? = some 1) := by
  induction K with
  | nil => intro _ q; simp
  | cons x K ih =>
    intro h q
    cases K with
    | nil => simp
    | cons y L =>
      have h : (if x = 2 ∧ y = 1 then some 0 else (tm_f1 (y :: L)).map (· + 1)) = none := h
      by_cases hc : x = 2 ∧ y = 1
      · rw [if_pos hc] at h; cases h
      · rw [if_neg hc] at h
        cases hf : tm_f1 (y :: L) with
        | some p' => rw [hf] at h; cases h
        | none =>
          cases q with
          | zero => simpa using hc
          | succ q => simpa using ih hf q
theorem tm_h1_some (K : List Int) : ∀ p, tm_h1 K = some p → (K[p]? = some 2 ∧ K[p + 1]? = some 1) ∧ ∀ q, q < p → K[q]? = some 2 ∧ ¬ K[q + 1]? = some 1 := by
  induction K with
  | nil => intro p h; cases h
  | cons x K ih =>
    intro p h
    cases K with
    | nil => cases h
    | cons y L =>
      have h : (if x = 2 then (if y = 1 then some 0 else (tm_h1 (y :: L)).map (· + 1)) else none) = some p := h
      by_cases hx : x = 2
      · rw [if_pos hx] at h
        by_cases hy : y = 1
        · rw [if_pos hy] at h
          have := Option.some.inj h
          subst this
          exact ⟨by simp [hx, hy], fun q hq => by omega⟩
        · rw [if_neg hy] at h
          cases hf : tm_h1 (y :: L) with
          | none => rw [hf] at h; cases h
          | some p' =>
            rw [hf] at h
            have hp : p = p' + 1 := (Option.some.inj h).symm
            subst hp
            obtain ⟨h1, h2⟩ := ih p' hf
            refine ⟨by simpa using h1, fun q hq => ?_⟩
            cases q with
            | zero => simp [hx, hy]
            | succ q => simpa using h2 q (by omega)
      · rw [if_neg hx] at h; cases h
theorem tm_h1_none (K : List Int) : tm_h1 K = none → ∀ q : Nat, (∀ r : Nat, r < q → K[r]? = some 2 ∧ ¬ K[r + 1]? = some 1) → ¬ (K[q]? = some 2 ∧ K[q + 1]? = some 1) := by
  induction K with
  | nil => intro _ q; simp
  | cons x K ih =>
    intro h q hr
    cases K with
    | nil => simp
    | cons y L =>
      have h : (if x = 2 then (if y = 1 then some 0 else (tm_h1 (y :: L)).map (· + 1)) else none) = none := h
      by_cases hx : x = 2
      · rw [if_pos hx] at h
        by_cases hy : y = 1
        · rw [if_pos hy] at h; cases h
        · rw [if_neg hy] at h
          cases hf : tm_h1 (y :: L) with
          | some p' => rw [hf] at h; cases h
          | none =>
            cases q with
            | zero => simp [hy]
            | succ q => simpa using ih hf q (fun r hrq => by simpa using hr (r + 1) (by omega))
      · cases q with
        | zero => simp [hx]
        | succ q =>
          have := (hr 0 (by omega)).1
          simp [hx] at this
/-- all STEPS, or those of the HEAD: none where one is beyond, some none where there are too many -/
def tm_rd (hd : Bool) : Nat → Nat → Std.Format → Option (Option (Nat × Std.Format))
  | 0, _, _ => some none
  | f + 1, n, t => match (if hd = true then tm_h1 (tm_ks t) else tm_f1 (tm_ks t)) with
    | none => some (some (n, t))
    | some p => match tm_chk (tm_ct t p) with
      | none => none
      | some u => tm_rd hd f (n + 1) u
end
section
-- ===== PART A: goes FIRST, ahead of the names: the tables' words, and 'selects' of the private methods out of them =====
/-- a private method of a class that the tables say can be made, by its rows of tables_1 -/
def lw_okq (q : MethodName × Nat) : Prop := (q.1.cls ≠ "java/lang/invoke/MethodHandle" ∧ q.1.cls ≠ "java/lang/invoke/VarHandle") ∧ Cond.instantiable q.1.cls q.2 ∈ tables_1 ∧ Cond.privateMethod q.1 ∈ tables_1 ∧ Cond.instanceMethod q.1 ∈ tables_1
theorem lw_p0 : lw_okq (⟨"BindingBench", "register", "(I)LBindingBench$Term;"⟩, 3) := ⟨⟨by decide +kernel, by decide +kernel⟩, List.mem_of_getElem? (i := 20) (by decide +kernel), List.mem_of_getElem? (i := 135) (by decide +kernel), List.mem_of_getElem? (i := 136) (by decide +kernel)⟩
theorem lw_p1 : lw_okq (⟨"java/lang/Throwable", "fillInStackTrace", "(I)Ljava/lang/Throwable;"⟩, 6) := ⟨⟨by decide +kernel, by decide +kernel⟩, List.mem_of_getElem? (i := 179) (by decide +kernel), List.mem_of_getElem? (i := 177) (by decide +kernel), List.mem_of_getElem? (i := 178) (by decide +kernel)⟩
theorem lw_p2 : lw_okq (⟨"BindingBench$Workshop", "checked", "()LBindingBench$Term;"⟩, 5) := ⟨⟨by decide +kernel, by decide +kernel⟩, List.mem_of_getElem? (i := 48) (by decide +kernel), List.mem_of_getElem? (i := 247) (by decide +kernel), List.mem_of_getElem? (i := 248) (by decide +kernel)⟩
theorem lw_p3 : lw_okq (⟨"BindingBench$Workshop", "isTooDeep", "(LBindingBench$Term;)Z"⟩, 5) := ⟨⟨by decide +kernel, by decide +kernel⟩, List.mem_of_getElem? (i := 48) (by decide +kernel), List.mem_of_getElem? (i := 251) (by decide +kernel), List.mem_of_getElem? (i := 252) (by decide +kernel)⟩
theorem lw_p4 : lw_okq (⟨"BindingBench$Term", "reserve", "(I)V"⟩, 2) := ⟨⟨by decide +kernel, by decide +kernel⟩, List.mem_of_getElem? (i := 29) (by decide +kernel), List.mem_of_getElem? (i := 290) (by decide +kernel), List.mem_of_getElem? (i := 291) (by decide +kernel)⟩
theorem lw_p5 : lw_okq (⟨"BindingBench$Workshop", "addFilled", "(LBindingBench$Term;IILBindingBench$Term;II)V"⟩, 5) := ⟨⟨by decide +kernel, by decide +kernel⟩, List.mem_of_getElem? (i := 48) (by decide +kernel), List.mem_of_getElem? (i := 352) (by decide +kernel), List.mem_of_getElem? (i := 353) (by decide +kernel)⟩
theorem lw_p6 : lw_okq (⟨"BindingBench$Workshop", "addRaised", "(LBindingBench$Term;III)V"⟩, 5) := ⟨⟨by decide +kernel, by decide +kernel⟩, List.mem_of_getElem? (i := 48) (by decide +kernel), List.mem_of_getElem? (i := 356) (by decide +kernel), List.mem_of_getElem? (i := 357) (by decide +kernel)⟩
theorem lw_p7 : lw_okq (⟨"BindingBench$Term", "isRedex", "(I)Z"⟩, 2) := ⟨⟨by decide +kernel, by decide +kernel⟩, List.mem_of_getElem? (i := 29) (by decide +kernel), List.mem_of_getElem? (i := 388) (by decide +kernel), List.mem_of_getElem? (i := 389) (by decide +kernel)⟩
theorem lw_p8 : lw_okq (⟨"BindingBench$Text", "add", "(CI)V"⟩, 3) := ⟨⟨by decide +kernel, by decide +kernel⟩, List.mem_of_getElem? (i := 96) (by decide +kernel), List.mem_of_getElem? (i := 504) (by decide +kernel), List.mem_of_getElem? (i := 505) (by decide +kernel)⟩
theorem lw_p9 : lw_okq (⟨"BindingBench$Text", "addLeaf", "(I)V"⟩, 3) := ⟨⟨by decide +kernel, by decide +kernel⟩, List.mem_of_getElem? (i := 96) (by decide +kernel), List.mem_of_getElem? (i := 520) (by decide +kernel), List.mem_of_getElem? (i := 521) (by decide +kernel)⟩
theorem lw_p10 : lw_okq (⟨"BindingBenchModel", "none", "(I)Z"⟩, 15) := ⟨⟨by decide +kernel, by decide +kernel⟩, List.mem_of_getElem? (i := 548) (by decide +kernel), List.mem_of_getElem? (i := 614) (by decide +kernel), List.mem_of_getElem? (i := 615) (by decide +kernel)⟩
theorem lw_p11 : lw_okq (⟨"BindingBenchModel", "refuse", "(IZ)Z"⟩, 15) := ⟨⟨by decide +kernel, by decide +kernel⟩, List.mem_of_getElem? (i := 548) (by decide +kernel), List.mem_of_getElem? (i := 618) (by decide +kernel), List.mem_of_getElem? (i := 619) (by decide +kernel)⟩
theorem lw_p12 : lw_okq (⟨"BindingBenchModel", "begin", "()V"⟩, 15) := ⟨⟨by decide +kernel, by decide +kernel⟩, List.mem_of_getElem? (i := 548) (by decide +kernel), List.mem_of_getElem? (i := 622) (by decide +kernel), List.mem_of_getElem? (i := 623) (by decide +kernel)⟩
theorem lw_p13 : lw_okq (⟨"BindingBenchModel", "add", "(I)V"⟩, 15) := ⟨⟨by decide +kernel, by decide +kernel⟩, List.mem_of_getElem? (i := 548) (by decide +kernel), List.mem_of_getElem? (i := 626) (by decide +kernel), List.mem_of_getElem? (i := 627) (by decide +kernel)⟩
theorem lw_p14 : lw_okq (⟨"BindingBenchModel", "keep", "(I)I"⟩, 15) := ⟨⟨by decide +kernel, by decide +kernel⟩, List.mem_of_getElem? (i := 548) (by decide +kernel), List.mem_of_getElem? (i := 630) (by decide +kernel), List.mem_of_getElem? (i := 631) (by decide +kernel)⟩
theorem lw_p15 : lw_okq (⟨"BindingBenchModel", "add", "([III)V"⟩, 15) := ⟨⟨by decide +kernel, by decide +kernel⟩, List.mem_of_getElem? (i := 548) (by decide +kernel), List.mem_of_getElem? (i := 639) (by decide +kernel), List.mem_of_getElem? (i := 640) (by decide +kernel)⟩
def lw_privs_1 : List (MethodName × Nat) := [(⟨"BindingBench", "register", "(I)LBindingBench$Term;"⟩, 3), (⟨"java/lang/Throwable", "fillInStackTrace", "(I)Ljava/lang/Throwable;"⟩, 6), (⟨"BindingBench$Workshop", "checked", "()LBindingBench$Term;"⟩, 5), (⟨"BindingBench$Workshop", "isTooDeep", "(LBindingBench$Term;)Z"⟩, 5), (⟨"BindingBench$Term", "reserve", "(I)V"⟩, 2), (⟨"BindingBench$Workshop", "addFilled", "(LBindingBench$Term;IILBindingBench$Term;II)V"⟩, 5), (⟨"BindingBench$Workshop", "addRaised", "(LBindingBench$Term;III)V"⟩, 5), (⟨"BindingBench$Term", "isRedex", "(I)Z"⟩, 2), (⟨"BindingBench$Text", "add", "(CI)V"⟩, 3), (⟨"BindingBench$Text", "addLeaf", "(I)V"⟩, 3), (⟨"BindingBenchModel", "none", "(I)Z"⟩, 15), (⟨"BindingBenchModel", "refuse", "(IZ)Z"⟩, 15), (⟨"BindingBenchModel", "begin", "()V"⟩, 15), (⟨"BindingBenchModel", "add", "(I)V"⟩, 15), (⟨"BindingBenchModel", "keep", "(I)I"⟩, 15), (⟨"BindingBenchModel", "add", "([III)V"⟩, 15)]
theorem lw_r1 : ∀ q ∈ lw_privs_1, lw_okq q := List.forall_mem_cons.mpr ⟨lw_p0, List.forall_mem_cons.mpr ⟨lw_p1, List.forall_mem_cons.mpr ⟨lw_p2, List.forall_mem_cons.mpr ⟨lw_p3, List.forall_mem_cons.mpr ⟨lw_p4, List.forall_mem_cons.mpr ⟨lw_p5, List.forall_mem_cons.mpr ⟨lw_p6, List.forall_mem_cons.mpr ⟨lw_p7, List.forall_mem_cons.mpr ⟨lw_p8, List.forall_mem_cons.mpr ⟨lw_p9, List.forall_mem_cons.mpr ⟨lw_p10, List.forall_mem_cons.mpr ⟨lw_p11, List.forall_mem_cons.mpr ⟨lw_p12, List.forall_mem_cons.mpr ⟨lw_p13, List.forall_mem_cons.mpr ⟨lw_p14, List.forall_mem_cons.mpr ⟨lw_p15, fun _ h => absurd h List.not_mem_nil⟩⟩⟩⟩⟩⟩⟩⟩⟩⟩⟩⟩⟩⟩⟩⟩
theorem lw_p16 : lw_okq (⟨"BindingBenchModel", "whole", "()Z"⟩, 15) := ⟨⟨by decide +kernel, by decide +kernel⟩, List.mem_of_getElem? (i := 548) (by decide +kernel), List.mem_of_getElem? (i := 643) (by decide +kernel), List.mem_of_getElem? (i := 644) (by decide +kernel)⟩
theorem lw_p17 : lw_okq (⟨"BindingBenchModel", "depth", "([II)I"⟩, 15) := ⟨⟨by decide +kernel, by decide +kernel⟩, List.mem_of_getElem? (i := 548) (by decide +kernel), List.mem_of_getElem? (i := 647) (by decide +kernel), List.mem_of_getElem? (i := 648) (by decide +kernel)⟩
theorem lw_p18 : lw_okq (⟨"BindingBenchModel", "renamed", "()V"⟩, 15) := ⟨⟨by decide +kernel, by decide +kernel⟩, List.mem_of_getElem? (i := 548) (by decide +kernel), List.mem_of_getElem? (i := 652) (by decide +kernel), List.mem_of_getElem? (i := 653) (by decide +kernel)⟩
theorem lw_p19 : lw_okq (⟨"BindingBenchModel", "rename", "()V"⟩, 15) := ⟨⟨by decide +kernel, by decide +kernel⟩, List.mem_of_getElem? (i := 548) (by decide +kernel), List.mem_of_getElem? (i := 656) (by decide +kernel), List.mem_of_getElem? (i := 657) (by decide +kernel)⟩
theorem lw_p20 : lw_okq (⟨"BindingBenchModel", "add", "([IIII[III)V"⟩, 15) := ⟨⟨by decide +kernel, by decide +kernel⟩, List.mem_of_getElem? (i := 548) (by decide +kernel), List.mem_of_getElem? (i := 664) (by decide +kernel), List.mem_of_getElem? (i := 665) (by decide +kernel)⟩
theorem lw_p21 : lw_okq (⟨"BindingBenchModel", "begins", "(I)V"⟩, 15) := ⟨⟨by decide +kernel, by decide +kernel⟩, List.mem_of_getElem? (i := 548) (by decide +kernel), List.mem_of_getElem? (i := 687) (by decide +kernel), List.mem_of_getElem? (i := 688) (by decide +kernel)⟩
theorem lw_p22 : lw_okq (⟨"BindingBenchModel", "first", "()I"⟩, 15) := ⟨⟨by decide +kernel, by decide +kernel⟩, List.mem_of_getElem? (i := 548) (by decide +kernel), List.mem_of_getElem? (i := 691) (by decide +kernel), List.mem_of_getElem? (i := 692) (by decide +kernel)⟩
theorem lw_p23 : lw_okq (⟨"BindingBenchModel", "isStep", "(I)Z"⟩, 15) := ⟨⟨by decide +kernel, by decide +kernel⟩, List.mem_of_getElem? (i := 548) (by decide +kernel), List.mem_of_getElem? (i := 695) (by decide +kernel), List.mem_of_getElem? (i := 696) (by decide +kernel)⟩
theorem lw_p24 : lw_okq (⟨"BindingBenchModel", "stepped", "(I)Z"⟩, 15) := ⟨⟨by decide +kernel, by decide +kernel⟩, List.mem_of_getElem? (i := 548) (by decide +kernel), List.mem_of_getElem? (i := 699) (by decide +kernel), List.mem_of_getElem? (i := 700) (by decide +kernel)⟩
theorem lw_p25 : lw_okq (⟨"BindingBenchModel", "keepNow", "(I)V"⟩, 15) := ⟨⟨by decide +kernel, by decide +kernel⟩, List.mem_of_getElem? (i := 548) (by decide +kernel), List.mem_of_getElem? (i := 703) (by decide +kernel), List.mem_of_getElem? (i := 704) (by decide +kernel)⟩
theorem lw_p26 : lw_okq (⟨"BindingBenchModel", "all", "(IIZ)I"⟩, 15) := ⟨⟨by decide +kernel, by decide +kernel⟩, List.mem_of_getElem? (i := 548) (by decide +kernel), List.mem_of_getElem? (i := 711) (by decide +kernel), List.mem_of_getElem? (i := 712) (by decide +kernel)⟩
theorem lw_p27 : lw_okq (⟨"BindingBenchModel", "atHead", "()I"⟩, 15) := ⟨⟨by decide +kernel, by decide +kernel⟩, List.mem_of_getElem? (i := 548) (by decide +kernel), List.mem_of_getElem? (i := 715) (by decide +kernel), List.mem_of_getElem? (i := 716) (by decide +kernel)⟩
theorem lw_p28 : lw_okq (⟨"BindingBenchModel", "places", "(II)I"⟩, 15) := ⟨⟨by decide +kernel, by decide +kernel⟩, List.mem_of_getElem? (i := 548) (by decide +kernel), List.mem_of_getElem? (i := 731) (by decide +kernel), List.mem_of_getElem? (i := 732) (by decide +kernel)⟩
theorem lw_p29 : lw_okq (⟨"BindingBenchModel", "written", "(III)I"⟩, 15) := ⟨⟨by decide +kernel, by decide +kernel⟩, List.mem_of_getElem? (i := 548) (by decide +kernel), List.mem_of_getElem? (i := 743) (by decide +kernel), List.mem_of_getElem? (i := 744) (by decide +kernel)⟩
theorem lw_p30 : lw_okq (⟨"BindingBenchModel", "say", "(I)V"⟩, 15) := ⟨⟨by decide +kernel, by decide +kernel⟩, List.mem_of_getElem? (i := 548) (by decide +kernel), List.mem_of_getElem? (i := 747) (by decide +kernel), List.mem_of_getElem? (i := 748) (by decide +kernel)⟩
def lw_privs_2 : List (MethodName × Nat) := [(⟨"BindingBenchModel", "whole", "()Z"⟩, 15), (⟨"BindingBenchModel", "depth", "([II)I"⟩, 15), (⟨"BindingBenchModel", "renamed", "()V"⟩, 15), (⟨"BindingBenchModel", "rename", "()V"⟩, 15), (⟨"BindingBenchModel", "add", "([IIII[III)V"⟩, 15), (⟨"BindingBenchModel", "begins", "(I)V"⟩, 15), (⟨"BindingBenchModel", "first", "()I"⟩, 15), (⟨"BindingBenchModel", "isStep", "(I)Z"⟩, 15), (⟨"BindingBenchModel", "stepped", "(I)Z"⟩, 15), (⟨"BindingBenchModel", "keepNow", "(I)V"⟩, 15), (⟨"BindingBenchModel", "all", "(IIZ)I"⟩, 15), (⟨"BindingBenchModel", "atHead", "()I"⟩, 15), (⟨"BindingBenchModel", "places", "(II)I"⟩, 15), (⟨"BindingBenchModel", "written", "(III)I"⟩, 15), (⟨"BindingBenchModel", "say", "(I)V"⟩, 15)]
theorem lw_r2 : ∀ q ∈ lw_privs_2, lw_okq q := List.forall_mem_cons.mpr ⟨lw_p16, List.forall_mem_cons.mpr ⟨lw_p17, List.forall_mem_cons.mpr ⟨lw_p18, List.forall_mem_cons.mpr ⟨lw_p19, List.forall_mem_cons.mpr ⟨lw_p20, List.forall_mem_cons.mpr ⟨lw_p21, List.forall_mem_cons.mpr ⟨lw_p22, List.forall_mem_cons.mpr ⟨lw_p23, List.forall_mem_cons.mpr ⟨lw_p24, List.forall_mem_cons.mpr ⟨lw_p25, List.forall_mem_cons.mpr ⟨lw_p26, List.forall_mem_cons.mpr ⟨lw_p27, List.forall_mem_cons.mpr ⟨lw_p28, List.forall_mem_cons.mpr ⟨lw_p29, List.forall_mem_cons.mpr ⟨lw_p30, fun _ h => absurd h List.not_mem_nil⟩⟩⟩⟩⟩⟩⟩⟩⟩⟩⟩⟩⟩⟩⟩
def lw_privs : List (MethodName × Nat) := lw_privs_1 ++ (lw_privs_2)
def lw_tbl : List Cond := k2_sels lw_privs ++ tables_1
theorem lw_privs_ok : ∀ q ∈ lw_privs, lw_okq q := by
  show ∀ q ∈ lw_privs_1 ++ (lw_privs_2), lw_okq q
  exact List.forall_mem_append.mpr ⟨lw_r1, lw_r2⟩
end
section
/-! ===== BEGIN words of one list among another's, by their places ===== -/
theorem goodIn_r {big : List Cond} (ws : List Cond) (ps : List Nat) (hp : ws = ps.filterMap (fun i => big[i]?)) (h : ws.all goodWord = true) : GoodIn big ws := by
  intro w hw
  have h1 := List.all_eq_true.mp h w hw
  rw [hp] at hw
  obtain ⟨i, -, hi⟩ := List.mem_filterMap.mp hw
  have hm : w ∈ big := by first | exact List.mem_of_getElem? hi | exact List.getElem?_mem hi
  exact ⟨hm, good_of_word h1⟩
theorem goodIn_app {big a b : List Cond} (ha : GoodIn big a) (hb : GoodIn big b) : GoodIn big (a ++ b) := fun w h => (List.mem_append.mp h).elim (ha w) (hb w)
theorem goodIn_ca {big a b : List Cond} {c : Cond} (ha : GoodIn big (c :: a)) (hb : GoodIn big b) : GoodIn big (c :: (a ++ b)) := fun w h => (List.mem_cons.mp h).elim (fun e => ha w (List.mem_cons.mpr (Or.inl e))) (fun h => (List.mem_append.mp h).elim (fun h => ha w (List.mem_cons.mpr (Or.inr h))) (hb w))
theorem goodIn_sub {big ws : List Cond} (hm : ∀ w ∈ ws, w ∈ big) (h : ws.all goodWord = true) : GoodIn big ws := fun w hw => ⟨hm w hw, good_of_word (List.all_eq_true.mp h w hw)⟩
/-! ===== END ===== -/

/-! ===== BEGIN exceptions that leave a method, and their catching by the caller (launches without stack traces) ===== -/
section VXA
/-! The laws vx_back, vx_callV, vx_callS, vx_callSW, vx_throw0, vx_throwS follow proofs of the library, with one case more: JvmDerived/Free/Laws.lean (Back.of_free), Shelf42/LK1.lean (callV, callS), Shelf/KitTraced.lean (throwNew0V, throwNewS). -/
/-- where a method has thrown q: the class by its name, the cell, what was written, the world -/
def vx_T (XC : String → State → State → Prop) (st : State) (q : Addr) (t : State) (mc ms : Nat) (free : Addr → Prop) : Prop :=
  ∃ (E : String) (ce : Cell) (L : List Loc), XC E st t ∧ t.heap[q]? = some ce ∧ ce.vm = .none ∧ st.vm.findClass E = some ce.cls ∧ st.WarmedH t.vm ∧ st.sameButNew ({ t with vm := st.vm } : State) L mc ms ∧ ∀ z ∈ L, free z.base
def vx_Q (Qc : Array Value → State → Outcome → State → Prop) (XC : String → State → State → Prop) (mc ms : Nat) (free : Addr → Prop) : Array Value → State → Outcome → State → Prop := fun a st o t =>
  (Qc a st o t ∧ ∃ L, FrameEnd st o t L mc ms ∧ ∀ q ∈ L, free q.base) ∨ ∃ q, o = .threw q ∧ vx_T XC st q t mc ms free
/-- a callee that returns or throws -/
def vx_Met (l : Launch) (y : MethodName) (ws : List Cond) (rm : Room) (Pc : Array Value → State → Prop) (Qc : Array Value → State → Outcome → State → Prop) (XC : String → State → State → Prop) (mc ms : Nat) (free : Addr → Prop) : Prop :=
  MetFree l y (headSpec ws rm) Pc (fun _ _ _ _ _ => True) (vx_Q Qc XC mc ms free)
def vx_Post (XC : String → State → State → Prop) (mc ms : Nat) (free : Addr → Prop) : Pt → Array Value → Addr → Pt → Prop := fun A a q B =>
  ∃ (g : JFrame) (mk : MethodId) (t : State) (L : List Loc) (E : String) (ce : Cell), B.U.heap = t.heap ∧ B.U.vm = t.vm ∧ XC E (A.U.calling g mk a) t ∧ t.heap[q]? = some ce ∧ ce.vm = .none ∧ A.U.vm.findClass E = some ce.cls ∧ B.locs = A.locs ++ L ∧ (∀ z ∈ L, free z.base) ∧ B.cells = A.cells + mc ∧ B.slots = A.slots + ms
def vx_Back (l : Launch) (R : Room) (p : Program) (e : Env) (below : List Frame) (s : State) (sargs : Array Value) (y : MethodName) (len W9 : Nat)
    (Pre : Pt → Array Value → Prop) (Post : Pt → Array Value → Option Value → Pt → Prop) (PostX : Pt → Array Value → Addr → Pt → Prop) : Prop :=
  ∀ (m : MethodId) (meth : Method) (c : Code) (A : Pt) (g : JFrame) (ig : Instr) (mk : MethodId) (a : Array Value),
    Stand p l e R s m sargs below meth c A.U A.locs A.cells A.slots → g.method = m → g.locals.size = c.maxLocals → decode c.code g.pc = .ok (ig, len) →
    2 * g.monitorRoom + (g.stack.map fun v => v.category).sum ≤ W9 → A.U.methodNamed? y = some mk → Pre A a →
    (∃ (v : Option Value) (B : Pt), Stand p l e R s m sargs below meth c B.U B.locs B.cells B.slots ∧ Post A a v B ∧
      Steps p.tables e below (doInvoke e (A.U.setTop g) [] mk a).1 (B.U.setTop { g with pc := g.pc + len, stack := v.toList ++ g.stack })) ∨
    (∃ (q : Addr) (B : Pt), Stand p l e R s m sargs below meth c B.U B.locs B.cells B.slots ∧ PostX A a q B ∧
      Steps p.tables e below (doInvoke e (A.U.setTop g) [] mk a).1 ((B.U.setTop g).pushFrame (.throwing q)))
section Payer
variable {l : Launch} {R : Room} {p : Program} {e : Env} {below : List Frame} {s : State} {sargs : Array Value} {y : MethodName} {len W9 : Nat}
theorem vx_back {ws : List Cond} {rm : Room} {Pc : Array Value → State → Prop} {Qc : Array Value → State → Outcome → State → Prop} {XC : String → State → State → Prop} {mc ms : Nat} {free : Addr → Prop} {bytes : ByteArray} {maxL : Nat} {ret : Option FieldType}
    (hM : vx_Met l y ws rm Pc Qc XC mc ms free) (hblind : FrameBlind Pc) (hrc : rm.cells = mc) (hrs : rm.slots = ms)
    (hframes : rm.frames + 1 ≤ R.frames) (hlocals : W9 + (maxL + 11) + rm.locals ≤ R.locals)
    (hws : ∀ w ∈ ws, ∀ a' U, s.WarmedH U.vm → w.before a' U = true) (hcode : Cond.code y bytes maxL ret ∈ ws) (hinit : ∀ a' U, s.WarmedH U.vm → (Cond.initialized y.cls).before a' U = true) :
    vx_Back l R p e below s sargs y len W9 (PreOf R mc ms Pc) (PostOf Qc mc ms free) (vx_Post XC mc ms free) := by
  intro m meth c A g ig mk a X hg hsize hdg hW hn hp
  have h1 : (headSpec ws rm).pre.before a A.U = true := atoms_intro fun w hw => hws w hw _ _ X.warmed
  have h2 : (Cond.code y bytes maxL ret).before a A.U = true := hws _ hcode _ _ X.warmed
  have h3 : (Cond.initialized y.cls).before a A.U = true := hinit _ _ X.warmed
  have h4 : A.cells + (headSpec ws rm).room.cells ≤ R.cells := by rw [show (headSpec ws rm).room.cells = mc from hrc]; exact hp.1
  have h5 : A.slots + (headSpec ws rm).room.slots ≤ R.slots := by rw [show (headSpec ws rm).room.slots = ms from hrs]; exact hp.2.1
  have hPc : Pc a (A.U.calling g mk a) := hblind _ _ _ _ hp.2.2
  obtain ⟨U, Ls, c0, s0⟩ := A
  dsimp only [Pt.U, Pt.locs, Pt.cells, Pt.slots] at h1 h2 h3 h4 h5 X hn hPc ⊢
  obtain ⟨methY, cY, hmY, hcY, -, hlY, -, -, -, -⟩ := Cond.code_spec hn h2
  obtain ⟨kY, hkY, -⟩ := className_of_methodNamed hn
  have hinitY : kY.init = .initialized := Cond.initialized_spec (findClass_of_methodNamed hn) hkY h3
  have h : At U g.method c below := by rw [hg]; exact X.here
  have hlocals9 : W9 + (maxL + 11) + (headSpec ws rm).room.locals ≤ R.locals := hlocals
  have happ : (headSpec ws rm).appliesLoose y e.platform (U.calling g mk a) = true :=
    Spec.appliesLoose_calling (g := g) h hdg hn hkY hinitY
      (X.room_calling (g := g) (R' := (headSpec ws rm).room) hsize hmY hcY hframes (by rw [hlY]; omega) h4 h5) h1
  obtain ⟨mid, hmid⟩ := h.above
  have hfr : (U.setTop g).frames = (.java g :: mid) ++ below := by rw [State.frames_setTop' g h.top, hmid]; rfl
  obtain ⟨o, s₂, hsteps, -, hend, hq⟩ := Steps.callFree hM p X.admits X.cas X.clock (acts := []) hfr happ hPc trivial
  have hq' : vx_Q Qc XC mc ms free a (U.calling g mk a) o s₂ := hq
  rw [State.frames_setTop' g h.top] at hend
  obtain ⟨g₀, hg0⟩ := Option.isSome_iff_exists.mp h.top
  obtain ⟨r, hr⟩ := State.topJava?_eq_some.mp hg0
  have hr' : (({ U with heap := s₂.heap, slotsUsed := s₂.slotsUsed } : State).setVm s₂.vm).frames = .java g₀ :: r := hr
  rcases hq' with ⟨hqc, L, hfe, hL⟩ | ⟨q, rfl, E, ce, L, hx, hce, hcv, hcl, hW₂, hsm, hL⟩
  · obtain ⟨⟨v, rfl⟩, hW₂, e2, q2, q3, q4, q5, q6⟩ := id hfe
    have e3 : s₂ = ({ (U.calling g mk a).setFrames s₂.frames with heap := s₂.heap, slotsUsed := s₂.slotsUsed } : State).setVm s₂.vm := by
      have : s₂ = ({ s₂ with vm := (U.calling g mk a).vm } : State).setVm s₂.vm := rfl
      rw [e2] at this
      exact this
    obtain ⟨c₂, i₂, len₂, hc₂, hd₂, hf₂⟩ := hend
    have hW' : U.WarmedH s₂.vm := hW₂
    have hcc : c₂ = c := by
      have h1 : s₂.code? g.method = U.code? g.method := by
        rw [State.code?_eq, State.code?_eq, hW'.alike.method?]
      exact Option.some.inj (hc₂.symm.trans (h1.trans h.code))
    subst hcc
    have hlen : len₂ = len := by rw [hdg] at hd₂; cases hd₂; rfl
    subst hlen
    have hs₂ : s₂ = (({ U with heap := s₂.heap, slotsUsed := s₂.slotsUsed } : State).setVm s₂.vm).setTop { g with pc := g.pc + len₂, stack := v.toList ++ g.stack } := by
      refine e3.trans ?_
      rw [hf₂, State.calling_eq h.top, State.setFrames_setFrames, State.setTop_of_frames _ hr', hr]
      rfl
    have hsame : U.sameButNew ({ U with heap := s₂.heap, slotsUsed := s₂.slotsUsed } : State) L mc ms := by
      refine ⟨?_, q2, q3, q4, q5, q6⟩
      obtain ⟨t, ht, -⟩ := State.frames_cons hr
      show ({ U with heap := s₂.heap, slotsUsed := s₂.slotsUsed } : State) = { U.setFrames U.frames with heap := s₂.heap, slotsUsed := s₂.slotsUsed }
      rw [State.setFrames_self ht]
    subst hg
    refine Or.inl ⟨v, ⟨(({ U with heap := s₂.heap, slotsUsed := s₂.slotsUsed } : State).setVm s₂.vm), Ls ++ L, c0 + mc, s0 + ms⟩,
      ⟨X.admits, X.cas, X.clock, X.frames, X.room, X.hears, X.method, X.code, (X.here.setHeapUsed s₂.heap s₂.slotsUsed).setVm hW'.alike, X.tail, State.WarmedH.trans X.warmed hW', X.limits, X.bytes, X.same.trans (hsame.setVm s.vm)⟩,
      ⟨g, mk, s₂, L, rfl, rfl, hqc, rfl, hL, rfl, rfl⟩, ?_⟩
    show Steps p.tables e below _ ((({ U with heap := s₂.heap, slotsUsed := s₂.slotsUsed } : State).setVm s₂.vm).setTop { g with pc := g.pc + len₂, stack := v.toList ++ g.stack })
    rw [← hs₂]
    exact hsteps
  · obtain ⟨e2, q2, q3, q4, q5, q6⟩ := id hsm
    have e3 : s₂ = ({ (U.calling g mk a).setFrames s₂.frames with heap := s₂.heap, slotsUsed := s₂.slotsUsed } : State).setVm s₂.vm := by
      have : s₂ = ({ s₂ with vm := (U.calling g mk a).vm } : State).setVm s₂.vm := rfl
      rw [e2] at this
      exact this
    have hf₂ : s₂.frames = .throwing q :: .java g :: U.frames.tail := hend
    have hW' : U.WarmedH s₂.vm := hW₂
    have hs₂ : s₂ = ((({ U with heap := s₂.heap, slotsUsed := s₂.slotsUsed } : State).setVm s₂.vm).setTop g).pushFrame (.throwing q) := by
      refine e3.trans ?_
      rw [hf₂, State.calling_eq h.top, State.setFrames_setFrames, State.pushFrame, State.frames_setTop _ hr', State.setTop_of_frames _ hr', State.setFrames_setFrames, hr]
      rfl
    have hsame : U.sameButNew ({ U with heap := s₂.heap, slotsUsed := s₂.slotsUsed } : State) L mc ms := by
      refine ⟨?_, q2, q3, q4, q5, q6⟩
      obtain ⟨t, ht, -⟩ := State.frames_cons hr
      show ({ U with heap := s₂.heap, slotsUsed := s₂.slotsUsed } : State) = { U.setFrames U.frames with heap := s₂.heap, slotsUsed := s₂.slotsUsed }
      rw [State.setFrames_self ht]
    subst hg
    refine Or.inr ⟨q, ⟨(({ U with heap := s₂.heap, slotsUsed := s₂.slotsUsed } : State).setVm s₂.vm), Ls ++ L, c0 + mc, s0 + ms⟩,
      ⟨X.admits, X.cas, X.clock, X.frames, X.room, X.hears, X.method, X.code, (X.here.setHeapUsed s₂.heap s₂.slotsUsed).setVm hW'.alike, X.tail, State.WarmedH.trans X.warmed hW', X.limits, X.bytes, X.same.trans (hsame.setVm s.vm)⟩,
      ⟨g, mk, s₂, L, E, ce, rfl, rfl, hx, hce, hcv, hcl, rfl, hL, rfl, rfl⟩, ?_⟩
    show Steps p.tables e below _ (((({ U with heap := s₂.heap, slotsUsed := s₂.slotsUsed } : State).setVm s₂.vm).setTop g).pushFrame (.throwing q))
    rw [← hs₂]
    exact hsteps
end Payer
section Calls
variable {p : Program} {l : Launch} {e : Env} {R : Room} {s : State} {m : MethodId} {args : Array Value} {below : List Frame} {meth : Method} {c : Code} {T : State} {locs : List Loc} {cells slots : Nat}
theorem vx_callV (X : Stand p l e R s m args below meth c T locs cells slots) (hexec : p.tables.exec = Jvm.exec) {own C : String} {index : Nat} {y : MethodName} {bytes : ByteArray} {maxL : Nat} {ret : Option FieldType}
    (hown : s.vm.findClass own = some m.cls) (hlink : (Cond.methodLink own index y).before args s = true) (hinst : (Cond.instanceMethod y).before args s = true) (hsel : (Cond.selects C y y).before args s = true)
    (hcode : (Cond.code y bytes maxL ret).before args s = true) (hy : y.cls ≠ "java/lang/invoke/MethodHandle" ∧ y.cls ≠ "java/lang/invoke/VarHandle")
    {W9 : Nat} {Pre : Pt → Array Value → Prop} {Post : Pt → Array Value → Option Value → Pt → Prop} {PostX : Pt → Array Value → Addr → Pt → Prop} (hK : vx_Back l R p e below s args y 3 W9 Pre Post PostX)
    {b : Addr} {cellB : Cell} (hcell : T.heap[b]? = some cellB) (hobj : cellB.vm.isStatics = false) (hcls : s.vm.findClass C = some cellB.cls)
    {g : JFrame} (hg : g.method = m) (hsize : g.locals.size = c.maxLocals) {argsL rest : List Value} (hlen : ∀ sig, parseMethodDescriptor y.desc = some sig → argsL.length = sig.parameters.length)
    (hstack : g.stack = argsL.reverse ++ .ref b :: rest) (hW : 2 * g.monitorRoom + (rest.map fun v => v.category).sum ≤ W9) (hdg : decode c.code g.pc = .ok (.invokevirtual index, 3))
    (hpre : ∀ vm₁, s.WarmedH vm₁ → Pre ⟨T.setVm vm₁, locs, cells, slots⟩ (Value.ref b :: argsL).toArray) :
    (∃ (v : Option Value) (vm₁ : Vm) (B : Pt), s.WarmedH vm₁ ∧ Stand p l e R s m args below meth c B.U B.locs B.cells B.slots ∧ Post ⟨T.setVm vm₁, locs, cells, slots⟩ (Value.ref b :: argsL).toArray v B ∧
      ∀ target, Steps p.tables e below (B.U.setTop { g with pc := g.pc + 3, stack := v.toList ++ rest }) target → Steps p.tables e below (T.setTop g) target) ∨
    (∃ (q : Addr) (vm₁ : Vm) (B : Pt), s.WarmedH vm₁ ∧ Stand p l e R s m args below meth c B.U B.locs B.cells B.slots ∧ PostX ⟨T.setVm vm₁, locs, cells, slots⟩ (Value.ref b :: argsL).toArray q B ∧
      Steps p.tables e below (T.setTop g) ((B.U.setTop { g with stack := rest }).pushFrame (.throwing q))) := by
  obtain ⟨mk, methM, hnamed, hmethM, hstM, habM⟩ := Cond.instanceMethod_spec hinst
  obtain ⟨methM', cM, hmethM', -, -, -, -, -, -, hsigM⟩ := Cond.code_spec hnamed hcode
  cases hmethM.symm.trans hmethM'
  obtain ⟨c2, r2, m2, q1, q2, q3, q4, kP, hkP, hkPi⟩ := Cond.selects_spec hsel
  cases hcls.symm.trans q1
  cases (State.methodFound?_of_named hnamed hy).symm.trans q2
  cases hnamed.symm.trans q3
  have hselP : selectMethod e.platform s.vm cellB.cls mk = .method mk := by rw [Launch.admits_selectMethod X.admits]; exact q4
  obtain ⟨vm₁, X₁, hstep₁⟩ := X.invokevirtual hexec hown hlink hnamed hmethM hstM hkP hkPi hy (a := b) (cell := cellB) hcell
    (fun z h => by rw [h] at hobj; cases hobj) hselP hmethM habM hkP hkPi (g := g) hg (argsL := argsL) (rest := rest) (hlen _ hsigM) hstack hdg
  rcases hK m meth c ⟨T.setVm vm₁, locs, cells, slots⟩ { g with stack := rest } (.invokevirtual index) mk (Value.ref b :: argsL).toArray X₁ hg hsize hdg hW (X₁.named hnamed) (hpre vm₁ X₁.warmed) with ⟨v, B, X', hpost, hsteps⟩ | ⟨q, B, X', hpost, hsteps⟩
  · exact Or.inl ⟨v, vm₁, B, X₁.warmed, X', hpost, fun target h => hstep₁ _ fun acts => by rw [doInvoke_state]; exact hsteps.trans h⟩
  · exact Or.inr ⟨q, vm₁, B, X₁.warmed, X', hpost, hstep₁ _ fun acts => by rw [doInvoke_state]; exact hsteps⟩
theorem vx_callS (X : Stand p l e R s m args below meth c T locs cells slots) (hexec : p.tables.exec = Jvm.exec) {own : String} {index : Nat} {y : MethodName} {bytes : ByteArray} {maxL : Nat} {ret : Option FieldType}
    (hown : s.vm.findClass own = some m.cls) (hlink : (Cond.methodLink own index y).before args s = true) (hstat : (Cond.static y).before args s = true) (hinit : (Cond.initialized y.cls).before args s = true)
    (hcode : (Cond.code y bytes maxL ret).before args s = true) (hy : y.cls ≠ "java/lang/invoke/MethodHandle" ∧ y.cls ≠ "java/lang/invoke/VarHandle")
    {W9 : Nat} {Pre : Pt → Array Value → Prop} {Post : Pt → Array Value → Option Value → Pt → Prop} {PostX : Pt → Array Value → Addr → Pt → Prop} (hK : vx_Back l R p e below s args y 3 W9 Pre Post PostX)
    {g : JFrame} (hg : g.method = m) (hsize : g.locals.size = c.maxLocals) {argsL rest : List Value} (hlen : ∀ sig, parseMethodDescriptor y.desc = some sig → argsL.length = sig.parameters.length)
    (hstack : g.stack = argsL.reverse ++ rest) (hW : 2 * g.monitorRoom + (rest.map fun v => v.category).sum ≤ W9) (hdg : decode c.code g.pc = .ok (.invokestatic index, 3))
    (hpre : ∀ vm₁, s.WarmedH vm₁ → Pre ⟨T.setVm vm₁, locs, cells, slots⟩ argsL.toArray) :
    (∃ (v : Option Value) (vm₁ : Vm) (B : Pt), s.WarmedH vm₁ ∧ Stand p l e R s m args below meth c B.U B.locs B.cells B.slots ∧ Post ⟨T.setVm vm₁, locs, cells, slots⟩ argsL.toArray v B ∧
      ∀ target, Steps p.tables e below (B.U.setTop { g with pc := g.pc + 3, stack := v.toList ++ rest }) target → Steps p.tables e below (T.setTop g) target) ∨
    (∃ (q : Addr) (vm₁ : Vm) (B : Pt), s.WarmedH vm₁ ∧ Stand p l e R s m args below meth c B.U B.locs B.cells B.slots ∧ PostX ⟨T.setVm vm₁, locs, cells, slots⟩ argsL.toArray q B ∧
      Steps p.tables e below (T.setTop g) ((B.U.setTop { g with stack := rest }).pushFrame (.throwing q))) := by
  obtain ⟨mk, hnamed⟩ := Cond.code_named hcode
  obtain ⟨methM, cM, hmethM, -, -, -, -, -, -, hsigM⟩ := Cond.code_spec hnamed hcode
  have hstatic : methM.isStatic = true := Cond.static_spec hnamed hmethM hstat
  obtain ⟨kP, hkP, -⟩ := className_of_methodNamed hnamed
  have hinitP : kP.init = .initialized := Cond.initialized_spec (findClass_of_methodNamed hnamed) hkP hinit
  obtain ⟨vm₁, X₁, hstep₁⟩ := X.invokestatic hexec hown hlink hnamed hmethM hstatic hkP hinitP hy (g := g) hg (argsL := argsL) (rest := rest) (hlen _ hsigM) hstack hdg
  rcases hK m meth c ⟨T.setVm vm₁, locs, cells, slots⟩ { g with stack := rest } (.invokestatic index) mk argsL.toArray X₁ hg hsize hdg hW (X₁.named hnamed) (hpre vm₁ X₁.warmed) with ⟨v, B, X', hpost, hsteps⟩ | ⟨q, B, X', hpost, hsteps⟩
  · exact Or.inl ⟨v, vm₁, B, X₁.warmed, X', hpost, fun target h => hstep₁ _ fun acts => by rw [doInvoke_state]; exact hsteps.trans h⟩
  · exact Or.inr ⟨q, vm₁, B, X₁.warmed, X', hpost, hstep₁ _ fun acts => by rw [doInvoke_state]; exact hsteps⟩
end Calls
theorem vx_cls {s : State} {T : State} {vm₁ : Vm} {E : String} {k : ClassId} (hW : s.WarmedH vm₁) (h : (T.setVm vm₁).vm.findClass E = some k) : s.vm.findClass E = some k := by
  have h1 : vm₁.findClass E = some k := h
  rw [hW.alike.findClass] at h1
  exact h1
/-- the method's frame g, with q thrown over it -/
def vx_W (p : Program) (l : Launch) (e : Env) (R : Room) (s : State) (m : MethodId) (args : Array Value) (below : List Frame) (meth : Method) (c : Code) (H : Heap) (locs : List Loc) (cells slots : Nat) (Q : State → Prop) (g : JFrame) (q : Addr) : Prop :=
  ∀ T : State, T.heap = H → Stand p l e R s m args below meth c T locs cells slots → ∃ t, Steps p.tables e below ((T.setTop g).pushFrame (.throwing q)) t ∧ Q t
def vx_Run (p : Program) (l : Launch) (e : Env) (R : Room) (s : State) (m : MethodId) (args : Array Value) (below : List Frame) (meth : Method) (c : Code) (H : Heap) (locs : List Loc) (cells slots mc ms : Nat) (g : JFrame) (rest : List Value) (Qa : State → Outcome → State → Prop) (XC : String → State → State → Prop) (free : Addr → Prop) : Prop :=
  ∀ T : State, T.heap = H → Stand p l e R s m args below meth c T locs cells slots →
    (∃ (v : Option Value) (st₀ t T' : State) (L : List Loc), st₀.heap = H ∧ Stand p l e R s m args below meth c T' (locs ++ L) (cells + mc) (slots + ms) ∧ (∀ q ∈ L, free q.base) ∧ T'.heap = t.heap ∧ T'.vm = t.vm ∧ Qa st₀ (.returned v) t ∧
      Goes p e below T g T' { g with pc := g.pc + 3, stack := v.toList ++ rest }) ∨
    (∃ (q : Addr) (st₀ t T' : State) (L : List Loc) (E : String) (ce : Cell), st₀.heap = H ∧ Stand p l e R s m args below meth c T' (locs ++ L) (cells + mc) (slots + ms) ∧ (∀ z ∈ L, free z.base) ∧ T'.heap = t.heap ∧ T'.vm = t.vm ∧ XC E st₀ t ∧ t.heap[q]? = some ce ∧ ce.vm = .none ∧ s.vm.findClass E = some ce.cls ∧
      Steps p.tables e below (T.setTop g) ((T'.setTop { g with stack := rest }).pushFrame (.throwing q)))
def vx_X {S : Type} (px : S → Prop) (B : String → S → State → Prop) (A : Nat → Prop) : String → State → State → Prop := fun E st t => ∃ u : S, px u ∧ B E u t ∧ va_F A st t
section Runs
variable {p : Program} {l : Launch} {e : Env} {R : Room} {s : State} {m : MethodId} {args : Array Value} {below : List Frame} {meth : Method} {c : Code} {H : Heap} {locs : List Loc} {cells slots : Nat}
variable {y : MethodName} {bytes cc : ByteArray} {maxL nL mc ms n index : Nat} {ret : Option FieldType} {ws : List Cond} {rm : Room} {Pc : Array Value → State → Prop} {Qc : Array Value → State → Outcome → State → Prop} {XC : String → State → State → Prop} {free : Addr → Prop} {Ts : List Cond} {own C : String} {b : Addr} {As rest : List Value} {g : JFrame}
theorem vx_callBack (cb : CallB R s args own index y bytes maxL ret ws rm mc ms n) (hM : vx_Met l y ws rm Pc Qc XC mc ms free) (hbl : FrameBlind Pc) : vx_Back l R p e below s args y 3 8 (PreOf R mc ms Pc) (PostOf Qc mc ms free) (vx_Post XC mc ms free) := by
  obtain ⟨hrc, hrs, hfr, hlo, hws, hcw, -, hini, -⟩ := cb
  exact vx_back (bytes := bytes) (maxL := maxL) (ret := ret) hM hbl hrc hrs hfr hlo hws hcw (fun a' U hW => word_at hW (Or.inl (by first | rfl | simp [Cond.onTables, Cond.keeps, Cond.steady])) hini)
theorem vx_runV (S : CallFix p m c cc nL s args Ts own) (hM : vx_Met l y ws rm Pc Qc XC mc ms free) (cw : CallW R s args own C index y bytes maxL ret ws rm mc ms n) (hp : PreV s H C b Pc As)
    (hg : g.method = m) (hn : As.length = n) (hsize : g.locals.size = nL) (hstack : g.stack = As.reverse ++ .ref b :: rest) (hW : 2 * g.monitorRoom + (rest.map fun v => v.category).sum ≤ 8) (hdg : decode cc g.pc = .ok (.invokevirtual index, 3)) (hf : cells + mc ≤ R.cells ∧ slots + ms ≤ R.slots) :
    vx_Run p l e R s m args below meth c H locs cells slots mc ms g rest (Qc (Value.ref b :: As).toArray) XC free := by
  have hK : vx_Back l R p e below s args y 3 8 (PreOf R mc ms Pc) (PostOf Qc mc ms free) (vx_Post XC mc ms free) := vx_callBack cw.1 hM hp.1
  obtain ⟨⟨-, -, -, -, -, -, hcode, -, hy, hlen, hl⟩, hin, hse⟩ := cw
  obtain ⟨hx, hb, hml, ho, -⟩ := S
  obtain ⟨-, ⟨cellB, hcB, hoB, hclB⟩, hPc⟩ := hp
  intro T hT X
  rcases vx_callV X hx (C := C) (bytes := bytes) (maxL := maxL) (ret := ret) ho hl hin hse hcode hy hK (by rw [hT]; exact hcB) hoB hclB hg (hsize.trans hml.symm) (argsL := As) (rest := rest) (fun sig h => hn.trans (hlen sig h)) hstack hW (by rw [hb]; exact hdg)
    (fun vm₁ hW₁ => ⟨hf.1, hf.2, hPc (T.setVm vm₁) hT hW₁⟩) with ⟨v, vm₁, ⟨U', l2, c2, s2⟩, hW₁, X', ⟨g', mk, t, L, e1, e2, hq, h1, hL, h2, h3⟩, st⟩ | ⟨q, vm₁, ⟨U', l2, c2, s2⟩, hW₁, X', ⟨g', mk, t, L, E, ce, e1, e2, hq, hce, hcv, hcl, h1, hL, h2, h3⟩, st⟩
  · dsimp only [Pt.U, Pt.locs, Pt.cells, Pt.slots] at X' e1 e2 h1 h2 h3 st
    subst h1; subst h2; subst h3
    exact Or.inl ⟨v, (T.setVm vm₁).calling g' mk (Value.ref b :: As).toArray, t, U', L, hT, X', hL, e1, e2, hq, st⟩
  · dsimp only [Pt.U, Pt.locs, Pt.cells, Pt.slots] at X' e1 e2 h1 h2 h3 st hcl
    subst h1; subst h2; subst h3
    exact Or.inr ⟨q, (T.setVm vm₁).calling g' mk (Value.ref b :: As).toArray, t, U', L, E, ce, hT, X', hL, e1, e2, hq, hce, hcv, vx_cls hW₁ hcl, st⟩
theorem vx_runS (S : CallFix p m c cc nL s args Ts own) (hM : vx_Met l y ws rm Pc Qc XC mc ms free) (cw : CallB R s args own index y bytes maxL ret ws rm mc ms n ∧ (Cond.static y).before args s = true) (hp : PreS s H Pc As)
    (hg : g.method = m) (hn : As.length = n) (hsize : g.locals.size = nL) (hstack : g.stack = As.reverse ++ rest) (hW : 2 * g.monitorRoom + (rest.map fun v => v.category).sum ≤ 8) (hdg : decode cc g.pc = .ok (.invokestatic index, 3)) (hf : cells + mc ≤ R.cells ∧ slots + ms ≤ R.slots) :
    vx_Run p l e R s m args below meth c H locs cells slots mc ms g rest (Qc As.toArray) XC free := by
  have hK : vx_Back l R p e below s args y 3 8 (PreOf R mc ms Pc) (PostOf Qc mc ms free) (vx_Post XC mc ms free) := vx_callBack cw.1 hM hp.1
  obtain ⟨⟨-, -, -, -, -, -, hcode, hini, hy, hlen, hl⟩, hstt⟩ := cw
  obtain ⟨hx, hb, hml, ho, -⟩ := S
  intro T hT X
  rcases vx_callS X hx (bytes := bytes) (maxL := maxL) (ret := ret) ho hl hstt hini hcode hy hK hg (hsize.trans hml.symm) (argsL := As) (rest := rest) (fun sig h => hn.trans (hlen sig h)) hstack hW (by rw [hb]; exact hdg)
    (fun vm₁ hW₁ => ⟨hf.1, hf.2, hp.2 (T.setVm vm₁) hT hW₁⟩) with ⟨v, vm₁, ⟨U', l2, c2, s2⟩, hW₁, X', ⟨g', mk, t, L, e1, e2, hq, h1, hL, h2, h3⟩, st⟩ | ⟨q, vm₁, ⟨U', l2, c2, s2⟩, hW₁, X', ⟨g', mk, t, L, E, ce, e1, e2, hq, hce, hcv, hcl, h1, hL, h2, h3⟩, st⟩
  · dsimp only [Pt.U, Pt.locs, Pt.cells, Pt.slots] at X' e1 e2 h1 h2 h3 st
    subst h1; subst h2; subst h3
    exact Or.inl ⟨v, (T.setVm vm₁).calling g' mk As.toArray, t, U', L, hT, X', hL, e1, e2, hq, st⟩
  · dsimp only [Pt.U, Pt.locs, Pt.cells, Pt.slots] at X' e1 e2 h1 h2 h3 st hcl
    subst h1; subst h2; subst h3
    exact Or.inr ⟨q, (T.setVm vm₁).calling g' mk As.toArray, t, U', L, E, ce, hT, X', hL, e1, e2, hq, hce, hcv, vx_cls hW₁ hcl, st⟩
end Runs
section Rows
variable {p : Program} {l : Launch} {e : Env} {R : Room} {s : State} {m : MethodId} {args : Array Value} {below : List Frame} {meth : Method} {c : Code} {H : Heap} {locs : List Loc} {cells slots : Nat} {Q : State → Prop}
variable {mc ms : Nat} {free : Addr → Prop} {A0 A1 : Nat → Prop} {H0 : Heap} {a : Array Value} {pc : Nat} {ls : Array Slot} {st0 rest : List Value}
theorem vx_keep {st₀ t T' : State} {L : List Loc} (h0 : st₀.heap = H) (e1 : T'.heap = t.heap) (hS : va_S A0 H0 H locs) (hA : ∀ q, q < H.size → A1 q → A0 q) (hf : ∀ q, free q → A0 q) (hL : ∀ q ∈ L, free q.base) (hF : va_F A1 st₀ t) :
    H.size ≤ T'.heap.size ∧ (∀ q : Nat, q < H.size → ¬ A1 q → T'.heap[q]? = H[q]?) ∧ va_S A0 H0 T'.heap (locs ++ L) := by
  obtain ⟨hz, hk⟩ := hF
  rw [h0] at hz hk
  exact ⟨by rw [e1]; exact hz, fun q h1 h2 => by rw [e1]; exact hk q h1 h2,
    ⟨Nat.le_trans hS.1 (by rw [e1]; exact hz), fun q h1 h2 => by rw [e1, hk q (Nat.lt_of_lt_of_le h1 hS.1) (fun z => h2 (hA q (Nat.lt_of_lt_of_le h1 hS.1) z))]; exact hS.2.1 q h1 h2, fun q hq => by
      rcases List.mem_append.mp hq with h | h
      · exact hS.2.2 q h
      · exact hf _ (hL q h)⟩⟩
theorem vx_calli {S SX : Type} {post : Int32 → S → Prop} {px : SX → Prop} {B : S → State → Prop} {BX : String → SX → State → Prop} {AX : Nat → Prop} (hr : vx_Run p l e R s m args below meth c H locs cells slots mc ms (F0 m pc ls st0) rest (va_Qi post B A1 a) (vx_X px BX AX) free) (hS : va_S A0 H0 H locs) (hA : ∀ q, q < H.size → A1 q → A0 q) (hf : ∀ q, free q → A0 q) (hAX : ∀ q, q < H.size → AX q → A0 q)
    (kx : ∀ (E : String) (ce : Cell) (q9 : Addr) (u : SX) (t : State) (H1 : Heap) (locs1 : List Loc), t.heap = H1 → s.vm.Alike t.vm → px u → BX E u t → H.size ≤ H1.size → (∀ q : Nat, q < H.size → ¬ AX q → H1[q]? = H[q]?) → va_S A0 H0 H1 locs1 → H1[q9]? = some ce → ce.vm = .none → s.vm.findClass E = some ce.cls → vx_W p l e R s m args below meth c H1 locs1 (cells + mc) (slots + ms) Q (F0 m pc ls rest) q9)
    (kk : ∀ (r : Int32) (u : S) (t : State) (H1 : Heap) (locs1 : List Loc), t.heap = H1 → s.vm.Alike t.vm → post r u → B u t → H.size ≤ H1.size → (∀ q : Nat, q < H.size → ¬ A1 q → H1[q]? = H[q]?) → va_S A0 H0 H1 locs1 → W p l e R s m args below meth c H1 locs1 (cells + mc) (slots + ms) Q (F0 m (pc + 3) ls (.int r :: rest))) : W p l e R s m args below meth c H locs cells slots Q (F0 m pc ls st0) := by
  intro T hT X
  rcases hr T hT X with ⟨v, st₀, t, T', L, h0, X', hL, e1, e2, ⟨⟨r, u, hv, hp, hb⟩, hF⟩, st⟩ | ⟨q, st₀, t, T', L, E, ce, h0, X', hL, e1, e2, ⟨u, hp, hb, hF⟩, hce, hcv, hcl, st⟩
  · cases hv
    obtain ⟨k1, k2, k3⟩ := vx_keep h0 e1 hS hA hf hL hF
    obtain ⟨t2, a1, b1⟩ := kk r u t T'.heap (locs ++ L) e1.symm (by rw [← e2]; exact X'.warmed.alike) hp hb k1 k2 k3 T' rfl X'
    exact ⟨t2, st t2 a1, b1⟩
  · obtain ⟨k1, k2, k3⟩ := vx_keep h0 e1 hS hAX hf hL hF
    obtain ⟨t2, a1, b1⟩ := kx E ce q u t T'.heap (locs ++ L) e1.symm (by rw [← e2]; exact X'.warmed.alike) hp hb k1 k2 k3 (by rw [e1]; exact hce) hcv hcl T' rfl X'
    exact ⟨t2, st.trans a1, b1⟩
theorem vx_calll {S SX : Type} {post : Int64 → S → Prop} {px : SX → Prop} {B : S → State → Prop} {BX : String → SX → State → Prop} {AX : Nat → Prop} (hr : vx_Run p l e R s m args below meth c H locs cells slots mc ms (F0 m pc ls st0) rest (va_Ql post B A1 a) (vx_X px BX AX) free) (hS : va_S A0 H0 H locs) (hA : ∀ q, q < H.size → A1 q → A0 q) (hf : ∀ q, free q → A0 q) (hAX : ∀ q, q < H.size → AX q → A0 q)
    (kx : ∀ (E : String) (ce : Cell) (q9 : Addr) (u : SX) (t : State) (H1 : Heap) (locs1 : List Loc), t.heap = H1 → s.vm.Alike t.vm → px u → BX E u t → H.size ≤ H1.size → (∀ q : Nat, q < H.size → ¬ AX q → H1[q]? = H[q]?) → va_S A0 H0 H1 locs1 → H1[q9]? = some ce → ce.vm = .none → s.vm.findClass E = some ce.cls → vx_W p l e R s m args below meth c H1 locs1 (cells + mc) (slots + ms) Q (F0 m pc ls rest) q9)
    (kk : ∀ (r : Int64) (u : S) (t : State) (H1 : Heap) (locs1 : List Loc), t.heap = H1 → s.vm.Alike t.vm → post r u → B u t → H.size ≤ H1.size → (∀ q : Nat, q < H.size → ¬ A1 q → H1[q]? = H[q]?) → va_S A0 H0 H1 locs1 → W p l e R s m args below meth c H1 locs1 (cells + mc) (slots + ms) Q (F0 m (pc + 3) ls (.long r :: rest))) : W p l e R s m args below meth c H locs cells slots Q (F0 m pc ls st0) := by
  intro T hT X
  rcases hr T hT X with ⟨v, st₀, t, T', L, h0, X', hL, e1, e2, ⟨⟨r, u, hv, hp, hb⟩, hF⟩, st⟩ | ⟨q, st₀, t, T', L, E, ce, h0, X', hL, e1, e2, ⟨u, hp, hb, hF⟩, hce, hcv, hcl, st⟩
  · cases hv
    obtain ⟨k1, k2, k3⟩ := vx_keep h0 e1 hS hA hf hL hF
    obtain ⟨t2, a1, b1⟩ := kk r u t T'.heap (locs ++ L) e1.symm (by rw [← e2]; exact X'.warmed.alike) hp hb k1 k2 k3 T' rfl X'
    exact ⟨t2, st t2 a1, b1⟩
  · obtain ⟨k1, k2, k3⟩ := vx_keep h0 e1 hS hAX hf hL hF
    obtain ⟨t2, a1, b1⟩ := kx E ce q u t T'.heap (locs ++ L) e1.symm (by rw [← e2]; exact X'.warmed.alike) hp hb k1 k2 k3 (by rw [e1]; exact hce) hcv hcl T' rfl X'
    exact ⟨t2, st.trans a1, b1⟩
theorem vx_callf {S SX : Type} {post : UInt32 → S → Prop} {px : SX → Prop} {B : S → State → Prop} {BX : String → SX → State → Prop} {AX : Nat → Prop} (hr : vx_Run p l e R s m args below meth c H locs cells slots mc ms (F0 m pc ls st0) rest (va_Qf post B A1 a) (vx_X px BX AX) free) (hS : va_S A0 H0 H locs) (hA : ∀ q, q < H.size → A1 q → A0 q) (hf : ∀ q, free q → A0 q) (hAX : ∀ q, q < H.size → AX q → A0 q)
    (kx : ∀ (E : String) (ce : Cell) (q9 : Addr) (u : SX) (t : State) (H1 : Heap) (locs1 : List Loc), t.heap = H1 → s.vm.Alike t.vm → px u → BX E u t → H.size ≤ H1.size → (∀ q : Nat, q < H.size → ¬ AX q → H1[q]? = H[q]?) → va_S A0 H0 H1 locs1 → H1[q9]? = some ce → ce.vm = .none → s.vm.findClass E = some ce.cls → vx_W p l e R s m args below meth c H1 locs1 (cells + mc) (slots + ms) Q (F0 m pc ls rest) q9)
    (kk : ∀ (r : UInt32) (u : S) (t : State) (H1 : Heap) (locs1 : List Loc), t.heap = H1 → s.vm.Alike t.vm → post r u → B u t → H.size ≤ H1.size → (∀ q : Nat, q < H.size → ¬ A1 q → H1[q]? = H[q]?) → va_S A0 H0 H1 locs1 → W p l e R s m args below meth c H1 locs1 (cells + mc) (slots + ms) Q (F0 m (pc + 3) ls (.float r :: rest))) : W p l e R s m args below meth c H locs cells slots Q (F0 m pc ls st0) := by
  intro T hT X
  rcases hr T hT X with ⟨v, st₀, t, T', L, h0, X', hL, e1, e2, ⟨⟨r, u, hv, hp, hb⟩, hF⟩, st⟩ | ⟨q, st₀, t, T', L, E, ce, h0, X', hL, e1, e2, ⟨u, hp, hb, hF⟩, hce, hcv, hcl, st⟩
  · cases hv
    obtain ⟨k1, k2, k3⟩ := vx_keep h0 e1 hS hA hf hL hF
    obtain ⟨t2, a1, b1⟩ := kk r u t T'.heap (locs ++ L) e1.symm (by rw [← e2]; exact X'.warmed.alike) hp hb k1 k2 k3 T' rfl X'
    exact ⟨t2, st t2 a1, b1⟩
  · obtain ⟨k1, k2, k3⟩ := vx_keep h0 e1 hS hAX hf hL hF
    obtain ⟨t2, a1, b1⟩ := kx E ce q u t T'.heap (locs ++ L) e1.symm (by rw [← e2]; exact X'.warmed.alike) hp hb k1 k2 k3 (by rw [e1]; exact hce) hcv hcl T' rfl X'
    exact ⟨t2, st.trans a1, b1⟩
theorem vx_calld {S SX : Type} {post : UInt64 → S → Prop} {px : SX → Prop} {B : S → State → Prop} {BX : String → SX → State → Prop} {AX : Nat → Prop} (hr : vx_Run p l e R s m args below meth c H locs cells slots mc ms (F0 m pc ls st0) rest (va_Qd post B A1 a) (vx_X px BX AX) free) (hS : va_S A0 H0 H locs) (hA : ∀ q, q < H.size → A1 q → A0 q) (hf : ∀ q, free q → A0 q) (hAX : ∀ q, q < H.size → AX q → A0 q)
    (kx : ∀ (E : String) (ce : Cell) (q9 : Addr) (u : SX) (t : State) (H1 : Heap) (locs1 : List Loc), t.heap = H1 → s.vm.Alike t.vm → px u → BX E u t → H.size ≤ H1.size → (∀ q : Nat, q < H.size → ¬ AX q → H1[q]? = H[q]?) → va_S A0 H0 H1 locs1 → H1[q9]? = some ce → ce.vm = .none → s.vm.findClass E = some ce.cls → vx_W p l e R s m args below meth c H1 locs1 (cells + mc) (slots + ms) Q (F0 m pc ls rest) q9)
    (kk : ∀ (r : UInt64) (u : S) (t : State) (H1 : Heap) (locs1 : List Loc), t.heap = H1 → s.vm.Alike t.vm → post r u → B u t → H.size ≤ H1.size → (∀ q : Nat, q < H.size → ¬ A1 q → H1[q]? = H[q]?) → va_S A0 H0 H1 locs1 → W p l e R s m args below meth c H1 locs1 (cells + mc) (slots + ms) Q (F0 m (pc + 3) ls (.double r :: rest))) : W p l e R s m args below meth c H locs cells slots Q (F0 m pc ls st0) := by
  intro T hT X
  rcases hr T hT X with ⟨v, st₀, t, T', L, h0, X', hL, e1, e2, ⟨⟨r, u, hv, hp, hb⟩, hF⟩, st⟩ | ⟨q, st₀, t, T', L, E, ce, h0, X', hL, e1, e2, ⟨u, hp, hb, hF⟩, hce, hcv, hcl, st⟩
  · cases hv
    obtain ⟨k1, k2, k3⟩ := vx_keep h0 e1 hS hA hf hL hF
    obtain ⟨t2, a1, b1⟩ := kk r u t T'.heap (locs ++ L) e1.symm (by rw [← e2]; exact X'.warmed.alike) hp hb k1 k2 k3 T' rfl X'
    exact ⟨t2, st t2 a1, b1⟩
  · obtain ⟨k1, k2, k3⟩ := vx_keep h0 e1 hS hAX hf hL hF
    obtain ⟨t2, a1, b1⟩ := kx E ce q u t T'.heap (locs ++ L) e1.symm (by rw [← e2]; exact X'.warmed.alike) hp hb k1 k2 k3 (by rw [e1]; exact hce) hcv hcl T' rfl X'
    exact ⟨t2, st.trans a1, b1⟩
theorem vx_callv {S SX : Type} {post : S → Prop} {px : SX → Prop} {B : S → State → Prop} {BX : String → SX → State → Prop} {AX : Nat → Prop} (hr : vx_Run p l e R s m args below meth c H locs cells slots mc ms (F0 m pc ls st0) rest (va_Qv post B A1 a) (vx_X px BX AX) free) (hS : va_S A0 H0 H locs) (hA : ∀ q, q < H.size → A1 q → A0 q) (hf : ∀ q, free q → A0 q) (hAX : ∀ q, q < H.size → AX q → A0 q)
    (kx : ∀ (E : String) (ce : Cell) (q9 : Addr) (u : SX) (t : State) (H1 : Heap) (locs1 : List Loc), t.heap = H1 → s.vm.Alike t.vm → px u → BX E u t → H.size ≤ H1.size → (∀ q : Nat, q < H.size → ¬ AX q → H1[q]? = H[q]?) → va_S A0 H0 H1 locs1 → H1[q9]? = some ce → ce.vm = .none → s.vm.findClass E = some ce.cls → vx_W p l e R s m args below meth c H1 locs1 (cells + mc) (slots + ms) Q (F0 m pc ls rest) q9)
    (kk : ∀ (u : S) (t : State) (H1 : Heap) (locs1 : List Loc), t.heap = H1 → s.vm.Alike t.vm → post u → B u t → H.size ≤ H1.size → (∀ q : Nat, q < H.size → ¬ A1 q → H1[q]? = H[q]?) → va_S A0 H0 H1 locs1 → W p l e R s m args below meth c H1 locs1 (cells + mc) (slots + ms) Q (F0 m (pc + 3) ls (rest))) : W p l e R s m args below meth c H locs cells slots Q (F0 m pc ls st0) := by
  intro T hT X
  rcases hr T hT X with ⟨v, st₀, t, T', L, h0, X', hL, e1, e2, ⟨⟨u, hv, hp, hb⟩, hF⟩, st⟩ | ⟨q, st₀, t, T', L, E, ce, h0, X', hL, e1, e2, ⟨u, hp, hb, hF⟩, hce, hcv, hcl, st⟩
  · cases hv
    obtain ⟨k1, k2, k3⟩ := vx_keep h0 e1 hS hA hf hL hF
    obtain ⟨t2, a1, b1⟩ := kk u t T'.heap (locs ++ L) e1.symm (by rw [← e2]; exact X'.warmed.alike) hp hb k1 k2 k3 T' rfl X'
    exact ⟨t2, st t2 a1, b1⟩
  · obtain ⟨k1, k2, k3⟩ := vx_keep h0 e1 hS hAX hf hL hF
    obtain ⟨t2, a1, b1⟩ := kx E ce q u t T'.heap (locs ++ L) e1.symm (by rw [← e2]; exact X'.warmed.alike) hp hb k1 k2 k3 (by rw [e1]; exact hce) hcv hcl T' rfl X'
    exact ⟨t2, st.trans a1, b1⟩
/-- caught by the row x of this method's table; the rows ahead don't take it -/
theorem vx_catch {own name : String} {E : String} {ce : Cell} {q : Addr} (hown : s.vm.findClass own = some m.cls) (pre : List ExceptionTableEntry) (x : ExceptionTableEntry) (suf : List ExceptionTableEntry) (hsplit : c.exceptionTable.toList = pre ++ x :: suf)
    (hpass : ∀ z ∈ pre, covers z pc = false ∨ (z.catchType ≠ 0 ∧ ∃ nm : String, (Cond.classLink own z.catchType nm).before args s = true ∧ va_Nc E nm s)) (hx : covers x pc = true) (h0 : x.catchType ≠ 0)
    (hlink : (Cond.classLink own x.catchType name).before args s = true) (hcast : (Cond.castable E name).before args s = true) (hcell : H[q]? = some ce) (hv : ce.vm = .none) (hcl : s.vm.findClass E = some ce.cls)
    (kk : W p l e R s m args below meth c H locs cells slots Q (F0 m x.handlerPc ls [.ref q])) : vx_W p l e R s m args below meth c H locs cells slots Q (F0 m pc ls rest) q := by
  intro T hT X
  have hpl : e.platform.magicAccessors = ({} : Platform).magicAccessors := by rw [X.admits.platform]
  obtain ⟨c3, c4, hc3, hc4, hasg⟩ := Cond.castable_spec hcast
  cases Option.some.inj (hc3.symm.trans hcl)
  obtain ⟨c5, hc5, hcl5⟩ := Cond.classLink_spec hown hlink e.platform hpl
  cases Option.some.inj (hc4.symm.trans hc5)
  obtain ⟨vm', X', st⟩ := X.thenCaughtThrough q (g := F0 m pc ls rest) rfl (Steps.refl _) (by rw [hT]; exact hcell) (by rw [hv]; rfl) (by obtain ⟨k9, h9, -⟩ := Vm.findClass_spec hcl; exact ⟨k9, h9⟩) pre x suf hsplit
    (fun z hz => by
      rcases hpass z hz with h | ⟨hz0, nm, hl1, hn1⟩
      · exact Or.inl h
      · obtain ⟨c6, hc6, hcl6⟩ := Cond.classLink_spec hown hl1 e.platform hpl
        obtain ⟨a8, b8, h1, h2, h3⟩ := hn1
        cases Option.some.inj (h1.symm.trans hcl)
        cases Option.some.inj (h2.symm.trans hc6)
        exact Or.inr ⟨hz0, _, hcl6, h3⟩) hx (Or.inr ⟨h0, c4, hcl5, hasg⟩)
  obtain ⟨t, a1, b1⟩ := kk (T.setVm vm') hT X'
  exact ⟨t, st.trans a1, b1⟩
end Rows
section Ends
variable {p : Program} {l : Launch} {e : Env} {R : Room} {s : State} {m : MethodId} {args : Array Value} {below : List Frame} {meth : Method} {c : Code} {H : Heap} {locs : List Loc} {cells slots : Nat} {Q : State → Prop}
variable {mc ms : Nat} {free : Addr → Prop} {A0 A1 : Nat → Prop} {H0 : Heap} {a : Array Value} {ls : Array Slot} {st0 rest : List Value}
variable {Qc : Array Value → State → Outcome → State → Prop} {XC : String → State → State → Prop}
/-- what a body that may throw owes at its end -/
def vx_MQ (below : List Frame) (Qc : Array Value → State → Outcome → State → Prop) (XC : String → State → State → Prop) (a : Array Value) (s : State) (mc ms : Nat) (free : Addr → Prop) : State → Prop := fun t =>
  ∃ o, t.status = .running ∧ Ended t below o ∧ vx_Q Qc XC mc ms free a s o t
theorem vx_ret {g : JFrame} {mc ms : Nat} (k : W p l e R s m args below meth c H locs cells slots (MQ below Qc args s mc ms free) g) : W p l e R s m args below meth c H locs cells slots (vx_MQ below Qc XC args s mc ms free) g := by
  intro T hT X
  obtain ⟨t, a1, o, b1, b2, b3, b4⟩ := k T hT X
  exact ⟨t, a1, o, b1, b2, Or.inl ⟨b3, b4⟩⟩
/-- not caught here: it goes on to the caller -/
theorem vx_widen {g : JFrame} {q : Addr} {k n : Nat} (h1 : cells ≤ k) (h2 : slots ≤ n) (kk : vx_W p l e R s m args below meth c H locs k n Q g q) : vx_W p l e R s m args below meth c H locs cells slots Q g q := fun T hT X => kk T hT (stand_widen X h1 h2)
theorem vx_out {pc : Nat} {E : String} {ce : Cell} {q : Addr} {mc ms : Nat} (hout : ∀ x ∈ c.exceptionTable.toList, covers x pc = false) (hlocks : meth.locks = false) (hcell : H[q]? = some ce) (hv : ce.vm = .none) (hcl : s.vm.findClass E = some ce.cls)
    (hx : ∀ t : State, t.heap = H → s.vm.Alike t.vm → XC E s t) (hf : ∀ z ∈ locs, free z.base) (hc : cells ≤ mc) (hs : slots ≤ ms) :
    vx_W p l e R s m args below meth c H locs cells slots (vx_MQ below Qc XC args s mc ms free) (F0 m pc ls rest) q := by
  intro T hT X
  obtain ⟨st1, hrun, hend, hW, hsm⟩ := X.leaveThrown q (g := F0 m pc ls rest) rfl rfl rfl hout hlocks
  have hcell9 : (T.setFrames (.throwing q :: below)).heap[q]? = some ce := by
    show T.heap[q]? = some ce
    rw [hT]; exact hcell
  exact ⟨_, st1, .threw q, hrun, hend, Or.inr ⟨q, rfl, E, ce, locs, hx _ hT hW.alike, hcell9, hv, hcl, hW, hsm.mono hc hs, hf⟩⟩
theorem vx_frame {U : State} {k n : Nat} (h : s.sameButNew ({ U with vm := s.vm } : State) locs k n) : s.heap.size ≤ U.heap.size ∧ ∀ q : Nat, q < s.heap.size → (∀ z ∈ locs, z.base ≠ q) → U.heap[q]? = s.heap[q]? := by
  obtain ⟨-, h2, -, -, -, h6⟩ := h
  refine ⟨h2, fun q hq hz => ?_⟩
  obtain ⟨c9, e1, e2, e3, e4⟩ := h6 q _ (Array.getElem?_eq_getElem hq)
  have hs : c9.slots = (s.heap[q]).slots := Array.ext_getElem? fun i => e4 i fun hm => hz _ hm rfl
  have h9 : c9 = s.heap[q] := by
    rw [hs] at e2
    exact e2
  have e5 : U.heap[q]? = some c9 := e1
  rw [e5, h9, Array.getElem?_eq_getElem hq]
/-- the words of a throw but the four that speak of the heap -/
def vx_no (w : Cond) : Bool := decide (w ≠ .isRef (.static Bundle.tN "UNASSIGNED_STACK" Bundle.steD)) && decide (w ≠ .isRef (.static Bundle.tN "SUPPRESSED_SENTINEL" Bundle.listD)) && decide (w ≠ .laysStatic Bundle.tN "UNASSIGNED_STACK" Bundle.steD) && decide (w ≠ .laysStatic Bundle.tN "SUPPRESSED_SENTINEL" Bundle.listD)
def vx_at0 (own : String) (ic : Nat) (X : String) (names : List String) : List Cond := (Bundle.ownAtoms0 own ic X names).filter vx_no
def vx_atS (own : String) (ic : Nat) (X : String) (names : List String) : List Cond := (Bundle.ownAtoms own ic X names).filter vx_no
/-- a word that the tables alone decide, or a good one -/
def vx_ot (w : Cond) : Bool := w.onTables || goodWord w
theorem vx_ot_at {args a' : Array Value} {s U : State} {w : Cond} (hW : s.WarmedH U.vm) (hvm : s.vm = U.vm) (hg : vx_ot w = true) (h : w.before args s = true) : w.before a' U = true := by
  simp only [vx_ot, Bool.or_eq_true] at hg
  rcases hg with hg | hg
  · exact va_tabs hg hvm h
  · exact word_at hW (good_of_word hg) h
/-- a list's words: the good ones out of the method's own list, the others by premises of their own -/
theorem vx_hat {args : Array Value} {s : State} {L B : List Cond} (h1 : ∀ w ∈ L.filter goodWord, w.before args s = true) (h2 : ∀ w ∈ L.filter (fun w => !goodWord w), w ∈ B) (h3 : ∀ w ∈ B, w.before args s = true) : ∀ w ∈ L, w.before args s = true := by
  intro w hw
  by_cases g : goodWord w = true
  · exact h1 w (List.mem_filter.mpr ⟨hw, g⟩)
  · refine h3 w (h2 w (List.mem_filter.mpr ⟨hw, ?_⟩))
    show (!goodWord w) = true
    cases hgw : goodWord w
    · rfl
    · exact absurd hgw g
theorem vx_c {args : Array Value} {s : State} {w : Cond} {B : List Cond} (h : w.before args s = true) (t : ∀ w ∈ B, w.before args s = true) : ∀ w' ∈ w :: B, w'.before args s = true := fun w' h' => (List.mem_cons.mp h').elim (fun e => by rw [e]; exact h) (t w')
theorem vx_n {args : Array Value} {s : State} : ∀ w ∈ ([] : List Cond), w.before args s = true := fun _ h => nomatch h
theorem vx_own {args : Array Value} {s : State} {L : List Cond} (h1 : ∀ w ∈ L.filter vx_no, w.before args s = true)
    (hU : (Cond.isRef (.static Bundle.tN "UNASSIGNED_STACK" Bundle.steD)).before args s = true) (hN : (Cond.isRef (.static Bundle.tN "SUPPRESSED_SENTINEL" Bundle.listD)).before args s = true)
    (lU : (Cond.laysStatic Bundle.tN "UNASSIGNED_STACK" Bundle.steD).before args s = true) (lN : (Cond.laysStatic Bundle.tN "SUPPRESSED_SENTINEL" Bundle.listD).before args s = true) : ∀ w ∈ L, w.before args s = true := by
  intro w hw
  by_cases e1 : w = .isRef (.static Bundle.tN "UNASSIGNED_STACK" Bundle.steD)
  · rw [e1]; exact hU
  · by_cases e2 : w = .isRef (.static Bundle.tN "SUPPRESSED_SENTINEL" Bundle.listD)
    · rw [e2]; exact hN
    · by_cases e3 : w = .laysStatic Bundle.tN "UNASSIGNED_STACK" Bundle.steD
      · rw [e3]; exact lU
      · by_cases e4 : w = .laysStatic Bundle.tN "SUPPRESSED_SENTINEL" Bundle.listD
        · rw [e4]; exact lN
        · exact h1 w (List.mem_filter.mpr ⟨hw, by unfold vx_no; rw [decide_eq_true e1, decide_eq_true e2, decide_eq_true e3, decide_eq_true e4]; rfl⟩)
/-- where a static field lies, its class's statics cell in H -/
def vx_L (C n d : String) (A : Nat → Prop) (U : State) (H : Heap) : Prop := ∃ (c : ClassId) (k : Class) (i : Nat) (f : Field) (a : Nat) (cell : Cell), U.vm.findClass C = some c ∧ U.fieldFound? C n d = some (c, k, i, f) ∧ f.isStatic = true ∧ k.statics = some a ∧ H[a]? = some cell ∧ cell.vm.isStatics = true ∧ cell.cls = c ∧ f.slot < cell.slots.size ∧ k.staticTypes[f.slot]? = some f.type ∧ ¬ A a
theorem vx_L.moved {C n d : String} {A : Nat → Prop} {u U : State} {H : Heap} (hvm : u.vm.Alike U.vm) (h : vx_L C n d A u H) : vx_L C n d A U H := by
  obtain ⟨c, k, i, f, a, cell, h1, h2, h3, h4, h5, h6, h7, h8, h9, h10⟩ := h
  obtain ⟨k', hi', he⟩ := State.fieldFound?_setVm hvm h2
  exact ⟨c, k', i, f, a, cell, by rw [hvm.findClass]; exact h1, hi', h3, by rw [he]; exact h4, h5, h6, h7, h8, by rw [he]; exact h9, h10⟩
theorem vx_L.kept {C n d : String} {A : Nat → Prop} {U : State} {H H1 : Heap} (h : vx_L C n d A U H) (hq : ∀ a : Nat, a < H.size → ¬ A a → H1[a]? = H[a]?) : vx_L C n d A U H1 := by
  obtain ⟨c, k, i, f, a, cell, h1, h2, h3, h4, h5, h6, h7, h8, h9, h10⟩ := h
  exact ⟨c, k, i, f, a, cell, h1, h2, h3, h4, by rw [hq a (Array.getElem?_eq_some_iff.mp h5).1 h10]; exact h5, h6, h7, h8, h9, h10⟩
theorem vx_L.narrow {C n d : String} {A B : Nat → Prop} {U : State} {H : Heap} (h : vx_L C n d A U H) (hAB : ∀ q, B q → A q) : vx_L C n d B U H := by
  obtain ⟨c, k, i, f, a, cell, h1, h2, h3, h4, h5, h6, h7, h8, h9, h10⟩ := h
  exact ⟨c, k, i, f, a, cell, h1, h2, h3, h4, h5, h6, h7, h8, h9, fun z => h10 (hAB _ z)⟩
theorem vx_L.word {C n d : String} {A : Nat → Prop} {s : State} {args : Array Value} (h : vx_L C n d A s s.heap) : (Cond.laysStatic C n d).before args s = true := by
  obtain ⟨c, k, i, f, a, cell, h1, h2, h3, h4, h5, h6, h7, h8, h9, -⟩ := h
  show (Cond.laysStatic C n d).holds args s none s [] = true
  exact Cond.laysStatic_of h1 h2 h3 h4 h5 h6 h7 h8 h9
/-- .. and what it holds: null or some reference -/
def vx_Zq (C n d : String) (A : Nat → Prop) (U : State) (H : Heap) : Prop := va_Zq C n d A U H ∧ vx_L C n d A U H
theorem vx_Zq.moved {C n d : String} {A : Nat → Prop} {u U : State} {H : Heap} (hvm : u.vm.Alike U.vm) (h : vx_Zq C n d A u H) : vx_Zq C n d A U H := ⟨va_Zq.moved hvm h.1, vx_L.moved hvm h.2⟩
theorem vx_Zq.kept {C n d : String} {A : Nat → Prop} {U : State} {H H1 : Heap} (h : vx_Zq C n d A U H) (hq : ∀ a : Nat, a < H.size → ¬ A a → H1[a]? = H[a]?) : vx_Zq C n d A U H1 := ⟨va_Zq.kept h.1 hq, vx_L.kept h.2 hq⟩
theorem vx_Zq.narrow {C n d : String} {A B : Nat → Prop} {U : State} {H : Heap} (h : vx_Zq C n d A U H) (hAB : ∀ q, B q → A q) : vx_Zq C n d B U H := ⟨va_Zq.narrow h.1 hAB, vx_L.narrow h.2 hAB⟩
theorem vx_Zqof {args : Array Value} {s : State} {C n d : String} {A : Nat → Prop} (hl : (Cond.laysStatic C n d).before args s = true) (hini : (Cond.initialized C).before args s = true) (h : (Cond.isRef (.static C n d)).before args s = true) (hA : ∀ a : Nat, a < s.heap.size → ¬ A a) : vx_Zq C n d A s s.heap := by
  refine ⟨va_Zqof hl hini h hA, ?_⟩
  obtain ⟨c, k, i, f, a, cell, h1, h2, h3, h4, h5, h6, h7, h8, h9⟩ := Cond.laysStatic_spec hl
  exact ⟨c, k, i, f, a, cell, h1, h2, h3, h4, h5, h6, h7, h8, h9, hA a (Array.getElem?_eq_some_iff.mp h5).1⟩
theorem vx_isRef {C n d : String} {v : Value} {A : Nat → Prop} {s : State} {args : Array Value} (h : va_Z C n d v A s s.heap) (hv : v.isRef = true) : (Cond.isRef (.static C n d)).before args s = true := by
  obtain ⟨cf, kf, fi, f, a, cell, h1, h2, h3, h4, h5, h6, h7, -⟩ := h
  have he : (Term.static C n d).eval args s none [] s = some v := by
    simp [Term.eval, State.fieldNamed?, h1, h2, h4, h5, h6, h7]
  simp only [Cond.before, Cond.holds, Cond.value, he]
  cases v <;> simp_all [Value.isRef]
theorem vx_isRefq {C n d : String} {A : Nat → Prop} {s : State} {args : Array Value} (h : va_Zq C n d A s s.heap) : (Cond.isRef (.static C n d)).before args s = true := by
  rcases h with h | ⟨t, h⟩
  · exact vx_isRef h rfl
  · exact vx_isRef h rfl
/-- the same frame, seen from here: as if the method were called anew in this heap -/
theorem vx_rebase {T : State} (X : Stand p l e R s m args below meth c T locs cells slots) {R' : Room} (hf : R'.frames ≤ R.frames) (hl : R'.locals ≤ R.locals) (hc : cells + R'.cells ≤ R.cells) (hs : slots + R'.slots ≤ R.slots) :
    Stand p l e R' ((T.setVm s.vm).setFrames (.invoking m args :: below)) m args below meth c T [] 0 0 := by
  have htop : (T.setVm s.vm).topJava?.isSome := X.here.top
  have hF : ((T.setVm s.vm).setFrames (.invoking m args :: below)).frames = .invoking m args :: below := State.frames_setFrames _ (State.cur_lt_of_top htop)
  obtain ⟨g₀, hg0⟩ := Option.isSome_iff_exists.mp htop
  obtain ⟨r, hr⟩ := State.topJava?_eq_some.mp hg0
  have hl9 : e.platform.stackLimits (T.setVm s.vm).me = e.platform.stackLimits s.me := X.limits
  have hb9 : (T.setVm s.vm).me.stackBytes = s.me.stackBytes := X.bytes
  refine ⟨X.admits, X.cas, X.clock, hF, ?_, X.hears, X.method, X.code, X.here, X.tail, X.warmed, ?_, ?_, ?_⟩
  · have h := X.room
    have hU : ((T.setVm s.vm).setFrames (.invoking m args :: below)).localsInUse = s.localsInUse := by
      rw [State.localsInUse_invoking hF (meth := meth) (c := c) X.method X.code, State.localsInUse_invoking X.frames X.method X.code]
    simp only [State.hasRoom, Bool.and_eq_true, decide_eq_true_eq] at h ⊢
    obtain ⟨⟨⟨⟨h1, h2, h3, h4, h5, h6⟩, h7⟩, h8⟩, h9⟩ := h
    rw [X.frames, List.length_cons] at h2 h3
    have q1 := X.heapSize
    have q2 := X.used
    simp only [hF, hU, List.length_cons, State.stackLimits_setFrames, State.stackBytes_setFrames, hl9, hb9]
    refine ⟨⟨⟨⟨by omega, by omega, by omega, by omega, by omega, h6⟩, ?_⟩, ?_⟩, X.book⟩
    · show T.heap.size + R'.cells ≤ e.platform.maxCells
      omega
    · show T.slotsUsed + R'.slots ≤ e.platform.maxSlots
      omega
  · rw [State.stackLimits_setFrames]; rfl
  · rw [State.stackBytes_setFrames]; rfl
  · refine ⟨?_, Nat.le_refl _, Nat.le_refl _, ?_, ?_, fun a c9 h9 => ⟨c9, h9, rfl, rfl, fun _ _ => rfl⟩⟩
    · obtain ⟨t, ht, -⟩ := State.frames_cons hr
      show T.setVm s.vm = { ((T.setVm s.vm).setFrames (.invoking m args :: below)).setFrames (T.setVm s.vm).frames with heap := T.heap, slotsUsed := T.slotsUsed }
      rw [State.setFrames_setFrames, State.setFrames_self ht]
      rfl
    · show T.slotsUsed = T.slotsUsed + ((T.heap.toList.drop T.heap.size).map (·.slots.size)).sum
      rw [List.drop_eq_nil_of_le (Nat.le_of_eq Array.length_toList)]
      rfl
    · show ((T.heap.toList.drop T.heap.size).map (·.slots.size)).sum ≤ 0
      rw [List.drop_eq_nil_of_le (Nat.le_of_eq Array.length_toList)]
      exact Nat.le_refl _
/-- 'throw new E()': new; dup; invokespecial; athrow -/
theorem vx_throw0 {cc : ByteArray} {pc : Nat} (hexec : p.tables.exec = Jvm.exec) (hb : c.code = cc) (hl : l.stackTraces = false) {own cls : String} {names : List String} {ik ic mc ms : Nat} {A : Nat → Prop}
    (hown : s.vm.findClass own = some m.cls) (hcls : Bundle.fit cls = true) (hnames : ∀ n ∈ names, Bundle.fit n = true)
    (hk : (Cond.classLink own ik cls).before args s = true) (hini : (Cond.initialized cls).before args s = true) (hat : ∀ w ∈ vx_at0 own ic cls names, w.before args s = true)
    (hgood : ∀ w ∈ Cond.classLink own ik cls :: Cond.initialized cls :: vx_at0 own ic cls names, vx_ot w = true)
    (hU : vx_Zq Bundle.tN "UNASSIGNED_STACK" Bundle.steD A s s.heap) (hN : vx_Zq Bundle.tN "SUPPRESSED_SENTINEL" Bundle.listD A s s.heap) (hS : va_S A s.heap H locs) (hsize : ls.size = c.maxLocals)
    (d0 : decode cc pc = .ok (.new ik, 3)) (d3 : decode cc (pc + 3) = .ok (.dup, 1)) (d4 : decode cc (pc + 4) = .ok (.invokespecial ic, 3)) (d7 : decode cc (pc + 7) = .ok (.athrow, 1))
    (hout : ∀ x ∈ c.exceptionTable.toList, covers x (pc + 7) = false)
    (hRframes : names.length + 3 < R.frames) (hRlocals : (rest.map fun v => v.category).sum + (13 * (names.length + 1) + 42) ≤ R.locals) (hRcells : cells + 1 ≤ R.cells) (hRslots : slots + 6 ≤ R.slots) (hlocks : meth.locks = false)
    (hx : ∀ t : State, s.vm.Alike t.vm → H.size ≤ t.heap.size → (∀ q : Nat, q < H.size → t.heap[q]? = H[q]?) → XC cls s t)
    (hf : ∀ z ∈ locs, free z.base) (hc : cells + 1 ≤ mc) (hs : slots + 6 ≤ ms) :
    W p l e R s m args below meth c H locs cells slots (vx_MQ below Qc XC args s mc ms free) (F0 m pc ls rest) := by
  intro T hT X
  have htr : e.platform.stackTraces = false := (show e.platform.stackTraces = l.stackTraces by rw [X.admits.platform]).trans hl
  have Y := vx_rebase X (R' := { frames := R.frames, locals := R.locals, cells := 1, slots := 6 }) (Nat.le_refl _) (Nat.le_refl _) hRcells hRslots
  obtain ⟨s', hA⟩ : ∃ z, z = (T.setVm s.vm).setFrames (.invoking m args :: below) := ⟨_, rfl⟩
  rw [← hA] at Y
  have hvm : s'.vm = s.vm := by rw [hA]; rfl
  have hhp : s'.heap = H := by rw [hA]; exact hT
  have hW0 : s.WarmedH s'.vm := by rw [hvm]; exact State.WarmedH.refl s
  have hat' : ∀ w ∈ vx_at0 own ic cls names, w.before args s' = true := fun w hw => vx_ot_at hW0 hvm.symm (hgood w (List.mem_cons_of_mem _ (List.mem_cons_of_mem _ hw))) (hat w hw)
  have hk' : (Cond.classLink own ik cls).before args s' = true := vx_ot_at hW0 hvm.symm (hgood _ List.mem_cons_self) hk
  have hini' : (Cond.initialized cls).before args s' = true := vx_ot_at hW0 hvm.symm (hgood _ (List.mem_cons_of_mem _ List.mem_cons_self)) hini
  have hU' : vx_Zq Bundle.tN "UNASSIGNED_STACK" Bundle.steD A s' s'.heap := by rw [hhp]; exact vx_Zq.moved hW0.alike (hU.kept hS.2.1)
  have hN' : vx_Zq Bundle.tN "SUPPRESSED_SENTINEL" Bundle.listD A s' s'.heap := by rw [hhp]; exact vx_Zq.moved hW0.alike (hN.kept hS.2.1)
  have h : ∀ w ∈ Bundle.ownAtoms0 own ic cls names, w.before args s' = true := vx_own hat' (vx_isRefq hU'.1) (vx_isRefq hN'.1) hU'.2.word hN'.2.word
  have hown' : s'.vm.findClass own = some m.cls := by rw [hvm]; exact hown
  have hins : (Cond.instantiable cls 6).before args s' = true := h _ (by simp [Bundle.ownAtoms0])
  obtain ⟨vm₁, cX, kX, hfX, hkX, -, -, X₁, st1⟩ := Y.newCold hexec (own := own) (C := cls) (index := ik) (n := 6) hown' hk' hins hini'
    (g := F0 m pc ls rest) rfl (by rw [hb]; exact d0) (Nat.le_refl _) (Nat.le_refl _)
  generalize hT1 : (T.setVm vm₁).pushCell { cls := cX, slots := kX.instanceTypes.map defaultValue, vm := .none } = T1 at X₁ st1
  have hcat : (Value.ref T.heap.size).category = 1 := rfl
  have hcellA : T1.heap[T.heap.size]? = some (freshCell cX kX) := by rw [← hT1]; exact State.heap_pushCell_size _ _
  have d3' : decode c.code (pc + 3) = .ok (.dup, 1) := by rw [hb]; exact d3
  obtain ⟨U, hsteps, hrun, hend, hW, hsame, ce, hce, hO⟩ := X₁.ctorThrow0 hexec htr (own := own) (cls := cls) (names := names) (ic := ic) hown' hcls hnames h (fun x hx => nomatch hx) hfX hkX hcellA (by rw [hhp, hT]; exact Nat.le_refl _)
    (g := { method := m, pc := pc + 4, locals := ls, stack := .ref T.heap.size :: .ref T.heap.size :: rest, locked := none }) rfl hsize rfl rfl (rest := rest) rfl
    (by rw [hb]; exact d4) (by rw [hb]; exact d7) hout hRframes (by simp only [List.map_cons, List.sum_cons, hcat]; omega) hlocks
  obtain ⟨f1, f2⟩ := vx_frame hsame
  rw [hhp] at f1 f2
  have hWs : s.WarmedH U.vm := State.WarmedH.trans hW0 hW
  have hcl : s.vm.findClass cls = some ce.cls := by
    have h9 := hO.cls
    rw [hvm] at h9
    exact h9
  have hall : s.sameButNew ({ U with vm := s.vm } : State) locs mc ms := by
    subst hA
    obtain ⟨e1, e2⟩ := hsame
    rw [State.setFrames_setFrames] at e1
    have h2 : (T.setVm s.vm).sameButNew ({ U with vm := s.vm } : State) [] (0 + 1) (0 + 6) := ⟨e1, e2⟩
    have h3 := X.same.trans h2
    rw [List.append_nil] at h3
    exact h3.mono hc hs
  refine ⟨U, ?_, .threw T.heap.size, hrun, hend, Or.inr ⟨T.heap.size, rfl, cls, ce, locs, hx U hWs.alike f1 (fun q hq => f2 q hq (fun z hz => nomatch hz)), hce, hO.vm, hcl, hWs, hall, hf⟩⟩
  refine st1 _ ?_
  show Steps p.tables e below (T1.setTop { method := m, pc := pc + 3, locals := ls, stack := .ref T.heap.size :: rest, locked := none }) _
  jvm_step X₁.here [X₁.here.top, hexec, d3', Value.category]
  exact hsteps
/-- 'throw new E("text")': new; dup; ldc; invokespecial; athrow -/
theorem vx_throwS {cc : ByteArray} {pc : Nat} (hexec : p.tables.exec = Jvm.exec) (hb : c.code = cc) (hl : l.stackTraces = false) {own cls text : String} {names : List String} {ik is ic mc ms sa : Nat} {A : Nat → Prop}
    (hown : s.vm.findClass own = some m.cls) (hcls : Bundle.fit cls = true) (hnames : ∀ n ∈ names, Bundle.fit n = true)
    (hk : (Cond.classLink own ik cls).before args s = true) (hini : (Cond.initialized cls).before args s = true) (hstr : vk_R own is text sa s) (hat : ∀ w ∈ vx_atS own ic cls names, w.before args s = true)
    (hgood : ∀ w ∈ Cond.classLink own ik cls :: Cond.initialized cls :: vx_atS own ic cls names, vx_ot w = true)
    (hU : vx_Zq Bundle.tN "UNASSIGNED_STACK" Bundle.steD A s s.heap) (hN : vx_Zq Bundle.tN "SUPPRESSED_SENTINEL" Bundle.listD A s s.heap) (hS : va_S A s.heap H locs) (hsize : ls.size = c.maxLocals)
    (d0 : decode cc pc = .ok (.new ik, 3)) (d3 : decode cc (pc + 3) = .ok (.dup, 1)) (d4 : decode cc (pc + 4) = .ok (.ldc is, 2)) (d6 : decode cc (pc + 6) = .ok (.invokespecial ic, 3)) (d9 : decode cc (pc + 9) = .ok (.athrow, 1))
    (hout : ∀ x ∈ c.exceptionTable.toList, covers x (pc + 9) = false)
    (hRframes : names.length + 3 < R.frames) (hRlocals : (rest.map fun v => v.category).sum + (13 * (names.length + 1) + 43) ≤ R.locals) (hRcells : cells + 1 ≤ R.cells) (hRslots : slots + 6 ≤ R.slots) (hlocks : meth.locks = false)
    (hx : ∀ t : State, s.vm.Alike t.vm → H.size ≤ t.heap.size → (∀ q : Nat, q < H.size → t.heap[q]? = H[q]?) → XC cls s t)
    (hf : ∀ z ∈ locs, free z.base) (hc : cells + 1 ≤ mc) (hs : slots + 6 ≤ ms) :
    W p l e R s m args below meth c H locs cells slots (vx_MQ below Qc XC args s mc ms free) (F0 m pc ls rest) := by
  intro T hT X
  have htr : e.platform.stackTraces = false := (show e.platform.stackTraces = l.stackTraces by rw [X.admits.platform]).trans hl
  have Y := vx_rebase X (R' := { frames := R.frames, locals := R.locals, cells := 1, slots := 6 }) (Nat.le_refl _) (Nat.le_refl _) hRcells hRslots
  obtain ⟨s', hA⟩ : ∃ z, z = (T.setVm s.vm).setFrames (.invoking m args :: below) := ⟨_, rfl⟩
  rw [← hA] at Y
  have hvm : s'.vm = s.vm := by rw [hA]; rfl
  have hhp : s'.heap = H := by rw [hA]; exact hT
  have hW0 : s.WarmedH s'.vm := by rw [hvm]; exact State.WarmedH.refl s
  have hat' : ∀ w ∈ vx_atS own ic cls names, w.before args s' = true := fun w hw => vx_ot_at hW0 hvm.symm (hgood w (List.mem_cons_of_mem _ (List.mem_cons_of_mem _ hw))) (hat w hw)
  have hk' : (Cond.classLink own ik cls).before args s' = true := vx_ot_at hW0 hvm.symm (hgood _ List.mem_cons_self) hk
  have hini' : (Cond.initialized cls).before args s' = true := vx_ot_at hW0 hvm.symm (hgood _ (List.mem_cons_of_mem _ List.mem_cons_self)) hini
  have hU' : vx_Zq Bundle.tN "UNASSIGNED_STACK" Bundle.steD A s' s'.heap := by rw [hhp]; exact vx_Zq.moved hW0.alike (hU.kept hS.2.1)
  have hN' : vx_Zq Bundle.tN "SUPPRESSED_SENTINEL" Bundle.listD A s' s'.heap := by rw [hhp]; exact vx_Zq.moved hW0.alike (hN.kept hS.2.1)
  have h : ∀ w ∈ Bundle.ownAtoms own ic cls names, w.before args s' = true := vx_own hat' (vx_isRefq hU'.1) (vx_isRefq hN'.1) hU'.2.word hN'.2.word
  have hown' : s'.vm.findClass own = some m.cls := by rw [hvm]; exact hown
  have hins : (Cond.instantiable cls 6).before args s' = true := h _ (by simp [Bundle.ownAtoms])
  obtain ⟨vm₁, cX, kX, hfX, hkX, -, -, X₁, st1⟩ := Y.newCold hexec (own := own) (C := cls) (index := ik) (n := 6) hown' hk' hins hini'
    (g := F0 m pc ls rest) rfl (by rw [hb]; exact d0) (Nat.le_refl _) (Nat.le_refl _)
  generalize hT1 : (T.setVm vm₁).pushCell { cls := cX, slots := kX.instanceTypes.map defaultValue, vm := .none } = T1 at X₁ st1
  have hcat : (Value.ref T.heap.size).category = 1 := rfl
  have hcellA : T1.heap[T.heap.size]? = some (freshCell cX kX) := by rw [← hT1]; exact State.heap_pushCell_size _ _
  have d3' : decode c.code (pc + 3) = .ok (.dup, 1) := by rw [hb]; exact d3
  have d4' : decode c.code (pc + 4) = .ok (.ldc is, 2) := by rw [hb]; exact d4
  have hstr' : vk_R own is text sa s' := vk_R.warm hW0 hstr
  obtain ⟨U, hsteps, hrun, hend, hW, hsame, ce, hce, hO⟩ := X₁.ctorThrowS hexec htr (own := own) (cls := cls) (names := names) (ic := ic) hown' hcls hnames h (fun x hx => nomatch hx) hfX hkX hcellA (by rw [hhp, hT]; exact Nat.le_refl _) (msg := .ref sa) rfl
    (g := { method := m, pc := pc + 6, locals := ls, stack := .ref sa :: .ref T.heap.size :: .ref T.heap.size :: rest, locked := none }) rfl hsize rfl rfl (rest := rest) rfl
    (by rw [hb]; exact d6) (by rw [hb]; exact d9) hout hRframes (by simp only [List.map_cons, List.sum_cons, hcat]; omega) hlocks
  obtain ⟨f1, f2⟩ := vx_frame hsame
  rw [hhp] at f1 f2
  have hWs : s.WarmedH U.vm := State.WarmedH.trans hW0 hW
  have hcl : s.vm.findClass cls = some ce.cls := by
    have h9 := hO.cls
    rw [hvm] at h9
    exact h9
  have hall : s.sameButNew ({ U with vm := s.vm } : State) locs mc ms := by
    subst hA
    obtain ⟨e1, e2⟩ := hsame
    rw [State.setFrames_setFrames] at e1
    have h2 : (T.setVm s.vm).sameButNew ({ U with vm := s.vm } : State) [] (0 + 1) (0 + 6) := ⟨e1, e2⟩
    have h3 := X.same.trans h2
    rw [List.append_nil] at h3
    exact h3.mono hc hs
  refine ⟨U, ?_, .threw T.heap.size, hrun, hend, Or.inr ⟨T.heap.size, rfl, cls, ce, locs, hx U hWs.alike f1 (fun q hq => f2 q hq (fun z hz => nomatch hz)), hce, hO.vm, hcl, hWs, hall, hf⟩⟩
  refine st1 _ ?_
  show Steps p.tables e below (T1.setTop { method := m, pc := pc + 3, locals := ls, stack := .ref T.heap.size :: rest, locked := none }) _
  jvm_step X₁.here [X₁.here.top, hexec, d3', Value.category]
  exact X₁.ldcString hexec (own := own) (text := text) (index := is) (a := sa) hown' hstr'.1 hstr'.2
    (g := { method := m, pc := pc + 4, locals := ls, stack := .ref T.heap.size :: .ref T.heap.size :: rest, locked := none }) rfl d4' _ hsteps
/-- 'throw new E("text")', the text by a wide index -/
theorem vx_throwSW {cc : ByteArray} {pc : Nat} (hexec : p.tables.exec = Jvm.exec) (hb : c.code = cc) (hl : l.stackTraces = false) {own cls text : String} {names : List String} {ik is ic mc ms sa : Nat} {A : Nat → Prop}
    (hown : s.vm.findClass own = some m.cls) (hcls : Bundle.fit cls = true) (hnames : ∀ n ∈ names, Bundle.fit n = true)
    (hk : (Cond.classLink own ik cls).before args s = true) (hini : (Cond.initialized cls).before args s = true) (hstr : vk_R own is text sa s) (hat : ∀ w ∈ vx_atS own ic cls names, w.before args s = true)
    (hgood : ∀ w ∈ Cond.classLink own ik cls :: Cond.initialized cls :: vx_atS own ic cls names, vx_ot w = true)
    (hU : vx_Zq Bundle.tN "UNASSIGNED_STACK" Bundle.steD A s s.heap) (hN : vx_Zq Bundle.tN "SUPPRESSED_SENTINEL" Bundle.listD A s s.heap) (hS : va_S A s.heap H locs) (hsize : ls.size = c.maxLocals)
    (d0 : decode cc pc = .ok (.new ik, 3)) (d3 : decode cc (pc + 3) = .ok (.dup, 1)) (d4 : decode cc (pc + 4) = .ok (.ldc_w is, 3)) (d7 : decode cc (pc + 7) = .ok (.invokespecial ic, 3)) (d10 : decode cc (pc + 10) = .ok (.athrow, 1))
    (hout : ∀ x ∈ c.exceptionTable.toList, covers x (pc + 10) = false)
    (hRframes : names.length + 3 < R.frames) (hRlocals : (rest.map fun v => v.category).sum + (13 * (names.length + 1) + 43) ≤ R.locals) (hRcells : cells + 1 ≤ R.cells) (hRslots : slots + 6 ≤ R.slots) (hlocks : meth.locks = false)
    (hx : ∀ t : State, s.vm.Alike t.vm → H.size ≤ t.heap.size → (∀ q : Nat, q < H.size → t.heap[q]? = H[q]?) → XC cls s t)
    (hf : ∀ z ∈ locs, free z.base) (hc : cells + 1 ≤ mc) (hs : slots + 6 ≤ ms) :
    W p l e R s m args below meth c H locs cells slots (vx_MQ below Qc XC args s mc ms free) (F0 m pc ls rest) := by
  intro T hT X
  have htr : e.platform.stackTraces = false := (show e.platform.stackTraces = l.stackTraces by rw [X.admits.platform]).trans hl
  have Y := vx_rebase X (R' := { frames := R.frames, locals := R.locals, cells := 1, slots := 6 }) (Nat.le_refl _) (Nat.le_refl _) hRcells hRslots
  obtain ⟨s', hA⟩ : ∃ z, z = (T.setVm s.vm).setFrames (.invoking m args :: below) := ⟨_, rfl⟩
  rw [← hA] at Y
  have hvm : s'.vm = s.vm := by rw [hA]; rfl
  have hhp : s'.heap = H := by rw [hA]; exact hT
  have hW0 : s.WarmedH s'.vm := by rw [hvm]; exact State.WarmedH.refl s
  have hat' : ∀ w ∈ vx_atS own ic cls names, w.before args s' = true := fun w hw => vx_ot_at hW0 hvm.symm (hgood w (List.mem_cons_of_mem _ (List.mem_cons_of_mem _ hw))) (hat w hw)
  have hk' : (Cond.classLink own ik cls).before args s' = true := vx_ot_at hW0 hvm.symm (hgood _ List.mem_cons_self) hk
  have hini' : (Cond.initialized cls).before args s' = true := vx_ot_at hW0 hvm.symm (hgood _ (List.mem_cons_of_mem _ List.mem_cons_self)) hini
  have hU' : vx_Zq Bundle.tN "UNASSIGNED_STACK" Bundle.steD A s' s'.heap := by rw [hhp]; exact vx_Zq.moved hW0.alike (hU.kept hS.2.1)
  have hN' : vx_Zq Bundle.tN "SUPPRESSED_SENTINEL" Bundle.listD A s' s'.heap := by rw [hhp]; exact vx_Zq.moved hW0.alike (hN.kept hS.2.1)
  have h : ∀ w ∈ Bundle.ownAtoms own ic cls names, w.before args s' = true := vx_own hat' (vx_isRefq hU'.1) (vx_isRefq hN'.1) hU'.2.word hN'.2.word
  have hown' : s'.vm.findClass own = some m.cls := by rw [hvm]; exact hown
  have hins : (Cond.instantiable cls 6).before args s' = true := h _ (by simp [Bundle.ownAtoms])
  obtain ⟨vm₁, cX, kX, hfX, hkX, -, -, X₁, st1⟩ := Y.newCold hexec (own := own) (C := cls) (index := ik) (n := 6) hown' hk' hins hini'
    (g := F0 m pc ls rest) rfl (by rw [hb]; exact d0) (Nat.le_refl _) (Nat.le_refl _)
  generalize hT1 : (T.setVm vm₁).pushCell { cls := cX, slots := kX.instanceTypes.map defaultValue, vm := .none } = T1 at X₁ st1
  have hcat : (Value.ref T.heap.size).category = 1 := rfl
  have hcellA : T1.heap[T.heap.size]? = some (freshCell cX kX) := by rw [← hT1]; exact State.heap_pushCell_size _ _
  have d3' : decode c.code (pc + 3) = .ok (.dup, 1) := by rw [hb]; exact d3
  have d4' : decode c.code (pc + 4) = .ok (.ldc_w is, 3) := by rw [hb]; exact d4
  have hstr' : vk_R own is text sa s' := vk_R.warm hW0 hstr
  obtain ⟨U, hsteps, hrun, hend, hW, hsame, ce, hce, hO⟩ := X₁.ctorThrowS hexec htr (own := own) (cls := cls) (names := names) (ic := ic) hown' hcls hnames h (fun x hx => nomatch hx) hfX hkX hcellA (by rw [hhp, hT]; exact Nat.le_refl _) (msg := .ref sa) rfl
    (g := { method := m, pc := pc + 7, locals := ls, stack := .ref sa :: .ref T.heap.size :: .ref T.heap.size :: rest, locked := none }) rfl hsize rfl rfl (rest := rest) rfl
    (by rw [hb]; exact d7) (by rw [hb]; exact d10) hout hRframes (by simp only [List.map_cons, List.sum_cons, hcat]; omega) hlocks
  obtain ⟨f1, f2⟩ := vx_frame hsame
  rw [hhp] at f1 f2
  have hWs : s.WarmedH U.vm := State.WarmedH.trans hW0 hW
  have hcl : s.vm.findClass cls = some ce.cls := by
    have h9 := hO.cls
    rw [hvm] at h9
    exact h9
  have hall : s.sameButNew ({ U with vm := s.vm } : State) locs mc ms := by
    subst hA
    obtain ⟨e1, e2⟩ := hsame
    rw [State.setFrames_setFrames] at e1
    have h2 : (T.setVm s.vm).sameButNew ({ U with vm := s.vm } : State) [] (0 + 1) (0 + 6) := ⟨e1, e2⟩
    have h3 := X.same.trans h2
    rw [List.append_nil] at h3
    exact h3.mono hc hs
  refine ⟨U, ?_, .threw T.heap.size, hrun, hend, Or.inr ⟨T.heap.size, rfl, cls, ce, locs, hx U hWs.alike f1 (fun q hq => f2 q hq (fun z hz => nomatch hz)), hce, hO.vm, hcl, hWs, hall, hf⟩⟩
  refine st1 _ ?_
  show Steps p.tables e below (T1.setTop { method := m, pc := pc + 3, locals := ls, stack := .ref T.heap.size :: rest, locked := none }) _
  jvm_step X₁.here [X₁.here.top, hexec, d3', Value.category]
  exact X₁.ldcStringW hexec (own := own) (text := text) (index := is) (a := sa) hown' hstr'.1 hstr'.2
    (g := { method := m, pc := pc + 4, locals := ls, stack := .ref T.heap.size :: .ref T.heap.size :: rest, locked := none }) rfl d4' _ hsteps
end Ends
section Bodies
variable {l : Launch}
theorem vx_ofW {y : MethodName} {ws ws' : List Cond} {rm : Room} {Pc : Array Value → State → Prop} {Qc : Array Value → State → Outcome → State → Prop} {XC : String → State → State → Prop} {mc ms : Nat} {free : Addr → Prop} {cc : ByteArray} {maxL : Nat} {ret : Option FieldType}
    (hy : plainName y.cls = true) (hw : ws = Cond.code y cc maxL ret :: ws')
    (body : ∀ p e s m args below meth c s₁, BodyLoose p l y (headSpec ws rm) cc maxL ret e s m args below meth c s₁ → c.maxLocals = maxL → (∀ x ∈ c.exceptionTable.toList, False) → Pc args s →
      W p l e (headSpec ws rm).room s m args below meth c s.heap [] 0 0 (vx_MQ below Qc XC args s mc ms free) (entryFrame m args maxL)) : vx_Met l y ws rm Pc Qc XC mc ms free := by
  refine MetFree.of_bodyS (code := cc) (maxLocals := maxL) (ret := ret) hy ?_ ?_
  · intro args s m h hn
    obtain ⟨meth, c, h1, h2, h3, h4, h5, h6, -, -⟩ := Cond.code_spec hn (atoms_spec (ws := ws) h _ (by rw [hw]; exact List.mem_cons_self))
    exact ⟨meth, c, h1, h2, h3, h4, h5, h6⟩
  · intro p e s m args below meth c s₁ B hml hP _
    have hh0 : s₁.heap = s.heap := by rw [B.state]; rfl
    have ht : ∀ x ∈ c.exceptionTable.toList, False := by
      obtain ⟨meth9, c9, h1, h2, -, -, -, -, h7, -⟩ := Cond.code_spec B.named (atoms_spec (ws := ws) B.pre _ (by rw [hw]; exact List.mem_cons_self))
      cases Option.some.inj (h1.symm.trans B.method)
      cases Option.some.inj (h2.symm.trans (Stand.of_body B).code)
      intro x hx
      rw [Array.isEmpty_iff.mp h7] at hx
      cases hx
    obtain ⟨t, a1, o, b1, b2, b3⟩ := body p e s m args below meth c s₁ B hml ht hP s₁ hh0 (Stand.of_body B)
    exact ⟨t, o, a1, b1, b2, b3⟩
/-- the table of a body with handlers -/
theorem vx_table {p : Program} {x y : MethodName} {S : Spec} {cc bytes : ByteArray} {maxL maxL' : Nat} {ret ret' : Option FieldType} {e : Env} {s s₁ : State} {m : MethodId} {args : Array Value} {below : List Frame} {meth : Method} {c : Code} {hh : List (Nat × Nat × Nat × Nat)}
    (B : BodyLoose p l y S cc maxL ret e s m args below meth c s₁) (h : (Cond.codeWith y bytes maxL' ret' hh).before args s = true) : c.exceptionTable.toList = tableOf hh := by
  obtain ⟨m9, meth9, c9, hn9, h1, h2, -, -, h6, -⟩ := Cond.codeWith_spec h
  cases Option.some.inj (hn9.symm.trans B.named)
  cases Option.some.inj (h1.symm.trans B.method)
  cases Option.some.inj (h2.symm.trans (Stand.of_body B).code)
  rw [← h6, table_eq]
end Bodies
end VXA
/-! ===== END ===== -/
/-! ===== BEGIN a static call of a method with an exception table ===== -/
section VXS
variable {p : Program} {l : Launch} {e : Env} {R : Room} {s : State} {m : MethodId} {args : Array Value} {below : List Frame} {meth : Method} {c : Code} {T : State} {H : Heap} {locs : List Loc} {cells slots : Nat}
abbrev vx_CSW (R : Room) (s : State) (args : Array Value) (own : String) (index : Nat) (y : MethodName) (bytes : ByteArray) (maxL : Nat) (ret : Option FieldType) (hh : List (Nat × Nat × Nat × Nat)) (ws : List Cond) (rm : Room) (mc ms n : Nat) : Prop :=
  (rm.cells = mc ∧ rm.slots = ms ∧ rm.frames + 1 ≤ R.frames ∧ 8 + (maxL + 11) + rm.locals ≤ R.locals ∧ (∀ w ∈ ws, ∀ (a' : Array Value) (U : State), s.WarmedH U.vm → w.before a' U = true) ∧ Cond.codeWith y bytes maxL ret hh ∈ ws) ∧
  (Cond.codeWith y bytes maxL ret hh).before args s = true ∧ (Cond.initialized y.cls).before args s = true ∧ (y.cls ≠ "java/lang/invoke/MethodHandle" ∧ y.cls ≠ "java/lang/invoke/VarHandle") ∧
  (∀ sig, parseMethodDescriptor y.desc = some sig → n = sig.parameters.length) ∧ (Cond.methodLink own index y).before args s = true ∧ (Cond.static y).before args s = true
theorem vx_cwSW {own : String} {index maxL mc ms : Nat} {y : MethodName} {bytes : ByteArray} {ret : Option FieldType} {hh : List (Nat × Nat × Nat × Nat)} {Ts ws ws' : List Cond} {rm : Room} (n : Nat) (ht : ∀ w ∈ Ts, w.before args s = true) (hT : GoodIn Ts (va_wsS own index y ws)) (hw : ws = Cond.codeWith y bytes maxL ret hh :: ws') (hrc : rm.cells = mc) (hrs : rm.slots = ms)
    (hd : y.cls ≠ "java/lang/invoke/MethodHandle" ∧ y.cls ≠ "java/lang/invoke/VarHandle" ∧ (parseMethodDescriptor y.desc).map (fun d => d.parameters.length) = some n) (hR : rm.frames + 1 ≤ R.frames ∧ 8 + (maxL + 11) + rm.locals ≤ R.locals) :
    vx_CSW R s args own index y bytes maxL ret hh ws rm mc ms n := by
  have ok : ∀ w ∈ va_wsS own index y ws, w.before args s = true := fun w h => ht w (hT w h).1
  have hG : GoodIn Ts ws := fun w h => hT w (by unfold va_wsS; exact List.mem_append_right _ h)
  have hc : Cond.codeWith y bytes maxL ret hh ∈ ws := by rw [hw]; exact List.mem_cons_self
  refine ⟨⟨hrc, hrs, hR.1, hR.2, pay_in ht hG, hc⟩, ht _ (hG _ hc).1, ok _ (by simp [va_wsS]), ⟨hd.1, hd.2.1⟩, fun sig h => ?_, ok _ (by simp [va_wsS]), ok _ (by simp [va_wsS])⟩
  have h2 := hd.2.2
  rw [h] at h2
  exact (Option.some.inj h2).symm
theorem vx_callSW (X : Stand p l e R s m args below meth c T locs cells slots) (hexec : p.tables.exec = Jvm.exec) {own : String} {index : Nat} {y : MethodName} {bytes : ByteArray} {maxL : Nat} {ret : Option FieldType} {hh : List (Nat × Nat × Nat × Nat)}
    (hown : s.vm.findClass own = some m.cls) (hlink : (Cond.methodLink own index y).before args s = true) (hstat : (Cond.static y).before args s = true) (hinit : (Cond.initialized y.cls).before args s = true)
    (hcode : (Cond.codeWith y bytes maxL ret hh).before args s = true) (hy : y.cls ≠ "java/lang/invoke/MethodHandle" ∧ y.cls ≠ "java/lang/invoke/VarHandle")
    {W9 : Nat} {Pre : Pt → Array Value → Prop} {Post : Pt → Array Value → Option Value → Pt → Prop} (hK : Back l R p e below s args y 3 W9 Pre Post)
    {g : JFrame} (hg : g.method = m) (hsize : g.locals.size = c.maxLocals) {argsL rest : List Value} (hlen : ∀ sig, parseMethodDescriptor y.desc = some sig → argsL.length = sig.parameters.length)
    (hstack : g.stack = argsL.reverse ++ rest) (hW : 2 * g.monitorRoom + (rest.map fun v => v.category).sum ≤ W9) (hdg : decode c.code g.pc = .ok (.invokestatic index, 3))
    (hpre : ∀ vm₁, s.WarmedH vm₁ → Pre ⟨T.setVm vm₁, locs, cells, slots⟩ argsL.toArray) :
    ∃ (v : Option Value) (vm₁ : Vm) (B : Pt), s.WarmedH vm₁ ∧ Stand p l e R s m args below meth c B.U B.locs B.cells B.slots ∧ Post ⟨T.setVm vm₁, locs, cells, slots⟩ argsL.toArray v B ∧
      ∀ target, Steps p.tables e below (B.U.setTop { g with pc := g.pc + 3, stack := v.toList ++ rest }) target → Steps p.tables e below (T.setTop g) target := by
  obtain ⟨mk, methM, cM, hnamed, hmethM, -, -, -, -, -, -, hsigM⟩ := Cond.codeWith_spec hcode
  have hstatic : methM.isStatic = true := Cond.static_spec hnamed hmethM hstat
  obtain ⟨kP, hkP, -⟩ := className_of_methodNamed hnamed
  have hinitP : kP.init = .initialized := Cond.initialized_spec (findClass_of_methodNamed hnamed) hkP hinit
  obtain ⟨vm₁, X₁, hstep₁⟩ := X.invokestatic hexec hown hlink hnamed hmethM hstatic hkP hinitP hy (g := g) hg (argsL := argsL) (rest := rest) (hlen _ hsigM) hstack hdg
  obtain ⟨v, B, X', hpost, hsteps⟩ := hK m meth c ⟨T.setVm vm₁, locs, cells, slots⟩ { g with stack := rest } (.invokestatic index) mk argsL.toArray X₁ hg hsize hdg hW (X₁.named hnamed) (hpre vm₁ X₁.warmed)
  exact ⟨v, vm₁, B, X₁.warmed, X', hpost, fun target h => hstep₁ _ fun acts => by rw [doInvoke_state]; exact hsteps.trans h⟩
theorem vx_runSW {y : MethodName} {bytes cc : ByteArray} {maxL nL mc ms n index : Nat} {ret : Option FieldType} {hh : List (Nat × Nat × Nat × Nat)} {ws : List Cond} {rm : Room} {Pc : Array Value → State → Prop} {Qc : Array Value → State → Outcome → State → Prop} {free : Addr → Prop} {Ts : List Cond} {own : String} {As rest : List Value} {g : JFrame}
    (S : CallFix p m c cc nL s args Ts own) (hM : Met l y ws rm Pc Qc mc ms free) (cw : vx_CSW R s args own index y bytes maxL ret hh ws rm mc ms n) (hp : PreS s H Pc As)
    (hg : g.method = m) (hn : As.length = n) (hsize : g.locals.size = nL) (hstack : g.stack = As.reverse ++ rest) (hW : 2 * g.monitorRoom + (rest.map fun v => v.category).sum ≤ 8) (hdg : decode cc g.pc = .ok (.invokestatic index, 3)) (hf : cells + mc ≤ R.cells ∧ slots + ms ≤ R.slots) :
    va_Run p l e R s m args below meth c H locs cells slots mc ms g rest (Qc As.toArray) (free) := by
  obtain ⟨⟨hrc, hrs, hfr, hlo, hws, hcw⟩, hcode, hini, hy, hlen, hl, hstt⟩ := cw
  have hK : Back l R p e below s args y 3 8 (PreOf R mc ms Pc) (PostOf Qc mc ms free) := va_backW (hh := hh) (bytes := bytes) (maxL := maxL) (ret := ret) hM hp.1 hrc hrs hfr hlo hws hcw (fun a' U hW => word_at hW (Or.inl (by first | rfl | simp [Cond.onTables, Cond.keeps, Cond.steady])) hini)
  obtain ⟨hx, hb, hml, ho, -⟩ := S
  intro T hT X
  obtain ⟨v, vm₁, ⟨U', l2, c2, s2⟩, hW₁, X', ⟨g', mk, t, L, e1, e2, hq, h1, hL, h2, h3⟩, st⟩ := vx_callSW X hx (hh := hh) (bytes := bytes) (maxL := maxL) (ret := ret) ho hl hstt hini hcode hy hK hg (hsize.trans hml.symm) (argsL := As) (rest := rest) (fun sig h => hn.trans (hlen sig h)) hstack hW (by rw [hb]; exact hdg)
    (fun vm₁ hW₁ => ⟨hf.1, hf.2, hp.2 (T.setVm vm₁) hT hW₁⟩)
  dsimp only [Pt.U, Pt.locs, Pt.cells, Pt.slots] at X' e1 e2 h1 h2 h3 st
  subst h1; subst h2; subst h3
  exact ⟨v, (T.setVm vm₁).calling g' mk As.toArray, t, U', L, hT, X', hL, e1, e2, hq, st⟩
/-- not caught here, past rows that name other classes: it goes on to the caller -/
theorem vx_outP {p : Program} {l : Launch} {e : Env} {R : Room} {s : State} {m : MethodId} {args : Array Value} {below : List Frame} {meth : Method} {c : Code} {H : Heap} {locs : List Loc} {cells slots : Nat} {free : Addr → Prop} {ls : Array Slot} {rest : List Value} {Qc : Array Value → State → Outcome → State → Prop} {XC : String → State → State → Prop}
    {pc : Nat} {own E : String} {ce : Cell} {q : Addr} {mc ms : Nat} (hown : s.vm.findClass own = some m.cls) (hlocks : meth.locks = false)
    (hpass : ∀ z ∈ c.exceptionTable.toList, covers z pc = false ∨ (z.catchType ≠ 0 ∧ ∃ nm : String, (Cond.classLink own z.catchType nm).before args s = true ∧ va_Nc E nm s)) (hcell : H[q]? = some ce) (hv : ce.vm = .none) (hcl : s.vm.findClass E = some ce.cls)
    (hx : ∀ t : State, t.heap = H → s.vm.Alike t.vm → XC E s t) (hf : ∀ z ∈ locs, free z.base) (hc : cells ≤ mc) (hs : slots ≤ ms) :
    vx_W p l e R s m args below meth c H locs cells slots (vx_MQ below Qc XC args s mc ms free) (F0 m pc ls rest) q := by
  intro T hT X
  have hpl : e.platform.magicAccessors = ({} : Platform).magicAccessors := by rw [X.admits.platform]
  obtain ⟨vm', hW', X', st⟩ := X.outThrough hlocks q (g := F0 m pc ls rest) rfl rfl rfl (cell := ce) (by rw [hT]; exact hcell) (by rw [hv]; rfl)
    (by obtain ⟨k9, h9, -⟩ := Vm.findClass_spec hcl; exact ⟨k9, h9⟩) (fun z hz => by
      rcases hpass z hz with h | ⟨hz0, nm, hl1, hn1⟩
      · exact Or.inl h
      · obtain ⟨c6, hc6, hcl6⟩ := Cond.classLink_spec hown hl1 e.platform hpl
        obtain ⟨a8, b8, h1, h2, h3⟩ := hn1
        cases Option.some.inj (h1.symm.trans hcl)
        cases Option.some.inj (h2.symm.trans hc6)
        exact Or.inr ⟨hz0, _, hcl6, h3⟩)
  obtain ⟨g₀, hfr⟩ := X'.frames_eq
  have hcell9 : ((T.setVm vm').setFrames (.throwing q :: below)).heap[q]? = some ce := by
    show T.heap[q]? = some ce
    rw [hT]; exact hcell
  have hend : Ended ((T.setVm vm').setFrames (.throwing q :: below)) below (.threw q) := State.frames_setFrames _ (State.cur_lt_of_frames hfr)
  refine ⟨(T.setVm vm').setFrames (.throwing q :: below), ?_, .threw q, X'.here.running, hend, Or.inr ⟨q, rfl, E, ce, locs, hx _ hT (X'.ends _).1.alike, hcell9, hv, hcl, (X'.ends _).1, (X'.ends _).2.mono hc hs, hf⟩⟩
  rw [X.pushThrowing_eq]
  exact st
/-- a thing of a world lies in the heap -/
theorem vx_lt {D : va_G} {cl : List vw_C} {ws : va_W} {H1 : Heap} (h : va_P D cl ws H1) {k : Nat} {q : Nat × va_E} (hk : ws[k]? = some q) : q.1 < H1.size := (h k q hk).lt
end VXS
/-! ===== END ===== -/
/-! ===== BEGIN methods with a table of their own: called by a name, returning or throwing ===== -/
section VXH
/-! vx_backW, vx_callVX, vx_callSX, vx_callVW, vx_runVW, vx_runVX, vx_runSX, vx_ofWH follow the same proofs as their sisters above (Free/Laws.lean, Shelf42/LK1.lean); vx_outP calls Shelf42/NT130.lean (outThrough). -/
section
variable {l : Launch} {R : Room} {p : Program} {e : Env} {below : List Frame} {s : State} {sargs : Array Value} {y : MethodName} {len W9 : Nat}
theorem vx_backW {ws : List Cond} {rm : Room} {Pc : Array Value → State → Prop} {Qc : Array Value → State → Outcome → State → Prop} {XC : String → State → State → Prop} {mc ms : Nat} {free : Addr → Prop} {bytes : ByteArray} {maxL : Nat} {ret : Option FieldType} {hh : List (Nat × Nat × Nat × Nat)}
    (hM : vx_Met l y ws rm Pc Qc XC mc ms free) (hblind : FrameBlind Pc) (hrc : rm.cells = mc) (hrs : rm.slots = ms)
    (hframes : rm.frames + 1 ≤ R.frames) (hlocals : W9 + (maxL + 11) + rm.locals ≤ R.locals)
    (hws : ∀ w ∈ ws, ∀ a' U, s.WarmedH U.vm → w.before a' U = true) (hcode : Cond.codeWith y bytes maxL ret hh ∈ ws) (hinit : ∀ a' U, s.WarmedH U.vm → (Cond.initialized y.cls).before a' U = true) :
    vx_Back l R p e below s sargs y len W9 (PreOf R mc ms Pc) (PostOf Qc mc ms free) (vx_Post XC mc ms free) := by
  intro m meth c A g ig mk a X hg hsize hdg hW hn hp
  have h1 : (headSpec ws rm).pre.before a A.U = true := atoms_intro fun w hw => hws w hw _ _ X.warmed
  have h2 : (Cond.codeWith y bytes maxL ret hh).before a A.U = true := hws _ hcode _ _ X.warmed
  have h3 : (Cond.initialized y.cls).before a A.U = true := hinit _ _ X.warmed
  have h4 : A.cells + (headSpec ws rm).room.cells ≤ R.cells := by rw [show (headSpec ws rm).room.cells = mc from hrc]; exact hp.1
  have h5 : A.slots + (headSpec ws rm).room.slots ≤ R.slots := by rw [show (headSpec ws rm).room.slots = ms from hrs]; exact hp.2.1
  have hPc : Pc a (A.U.calling g mk a) := hblind _ _ _ _ hp.2.2
  obtain ⟨U, Ls, c0, s0⟩ := A
  dsimp only [Pt.U, Pt.locs, Pt.cells, Pt.slots] at h1 h2 h3 h4 h5 X hn hPc ⊢
  obtain ⟨m9, methY, cY, hn9, hmY, hcY, -, hlY, -⟩ := Cond.codeWith_spec h2
  cases Option.some.inj (hn9.symm.trans hn)
  obtain ⟨kY, hkY, -⟩ := className_of_methodNamed hn
  have hinitY : kY.init = .initialized := Cond.initialized_spec (findClass_of_methodNamed hn) hkY h3
  have h : At U g.method c below := by rw [hg]; exact X.here
  have hlocals9 : W9 + (maxL + 11) + (headSpec ws rm).room.locals ≤ R.locals := hlocals
  have happ : (headSpec ws rm).appliesLoose y e.platform (U.calling g mk a) = true :=
    Spec.appliesLoose_calling (g := g) h hdg hn hkY hinitY
      (X.room_calling (g := g) (R' := (headSpec ws rm).room) hsize hmY hcY hframes (by rw [hlY]; omega) h4 h5) h1
  obtain ⟨mid, hmid⟩ := h.above
  have hfr : (U.setTop g).frames = (.java g :: mid) ++ below := by rw [State.frames_setTop' g h.top, hmid]; rfl
  obtain ⟨o, s₂, hsteps, -, hend, hq⟩ := Steps.callFree hM p X.admits X.cas X.clock (acts := []) hfr happ hPc trivial
  have hq' : vx_Q Qc XC mc ms free a (U.calling g mk a) o s₂ := hq
  rw [State.frames_setTop' g h.top] at hend
  obtain ⟨g₀, hg0⟩ := Option.isSome_iff_exists.mp h.top
  obtain ⟨r, hr⟩ := State.topJava?_eq_some.mp hg0
  have hr' : (({ U with heap := s₂.heap, slotsUsed := s₂.slotsUsed } : State).setVm s₂.vm).frames = .java g₀ :: r := hr
  rcases hq' with ⟨hqc, L, hfe, hL⟩ | ⟨q, rfl, E, ce, L, hx, hce, hcv, hcl, hW₂, hsm, hL⟩
  · obtain ⟨⟨v, rfl⟩, hW₂, e2, q2, q3, q4, q5, q6⟩ := id hfe
    have e3 : s₂ = ({ (U.calling g mk a).setFrames s₂.frames with heap := s₂.heap, slotsUsed := s₂.slotsUsed } : State).setVm s₂.vm := by
      have : s₂ = ({ s₂ with vm := (U.calling g mk a).vm } : State).setVm s₂.vm := rfl
      rw [e2] at this
      exact this
    obtain ⟨c₂, i₂, len₂, hc₂, hd₂, hf₂⟩ := hend
    have hW' : U.WarmedH s₂.vm := hW₂
    have hcc : c₂ = c := by
      have h1 : s₂.code? g.method = U.code? g.method := by
        rw [State.code?_eq, State.code?_eq, hW'.alike.method?]
      exact Option.some.inj (hc₂.symm.trans (h1.trans h.code))
    subst hcc
    have hlen : len₂ = len := by rw [hdg] at hd₂; cases hd₂; rfl
    subst hlen
    have hs₂ : s₂ = (({ U with heap := s₂.heap, slotsUsed := s₂.slotsUsed } : State).setVm s₂.vm).setTop { g with pc := g.pc + len₂, stack := v.toList ++ g.stack } := by
      refine e3.trans ?_
      rw [hf₂, State.calling_eq h.top, State.setFrames_setFrames, State.setTop_of_frames _ hr', hr]
      rfl
    have hsame : U.sameButNew ({ U with heap := s₂.heap, slotsUsed := s₂.slotsUsed } : State) L mc ms := by
      refine ⟨?_, q2, q3, q4, q5, q6⟩
      obtain ⟨t, ht, -⟩ := State.frames_cons hr
      show ({ U with heap := s₂.heap, slotsUsed := s₂.slotsUsed } : State) = { U.setFrames U.frames with heap := s₂.heap, slotsUsed := s₂.slotsUsed }
      rw [State.setFrames_self ht]
    subst hg
    refine Or.inl ⟨v, ⟨(({ U with heap := s₂.heap, slotsUsed := s₂.slotsUsed } : State).setVm s₂.vm), Ls ++ L, c0 + mc, s0 + ms⟩,
      ⟨X.admits, X.cas, X.clock, X.frames, X.room, X.hears, X.method, X.code, (X.here.setHeapUsed s₂.heap s₂.slotsUsed).setVm hW'.alike, X.tail, State.WarmedH.trans X.warmed hW', X.limits, X.bytes, X.same.trans (hsame.setVm s.vm)⟩,
      ⟨g, mk, s₂, L, rfl, rfl, hqc, rfl, hL, rfl, rfl⟩, ?_⟩
    show Steps p.tables e below _ ((({ U with heap := s₂.heap, slotsUsed := s₂.slotsUsed } : State).setVm s₂.vm).setTop { g with pc := g.pc + len₂, stack := v.toList ++ g.stack })
    rw [← hs₂]
    exact hsteps
  · obtain ⟨e2, q2, q3, q4, q5, q6⟩ := id hsm
    have e3 : s₂ = ({ (U.calling g mk a).setFrames s₂.frames with heap := s₂.heap, slotsUsed := s₂.slotsUsed } : State).setVm s₂.vm := by
      have : s₂ = ({ s₂ with vm := (U.calling g mk a).vm } : State).setVm s₂.vm := rfl
      rw [e2] at this
      exact this
    have hf₂ : s₂.frames = .throwing q :: .java g :: U.frames.tail := hend
    have hW' : U.WarmedH s₂.vm := hW₂
    have hs₂ : s₂ = ((({ U with heap := s₂.heap, slotsUsed := s₂.slotsUsed } : State).setVm s₂.vm).setTop g).pushFrame (.throwing q) := by
      refine e3.trans ?_
      rw [hf₂, State.calling_eq h.top, State.setFrames_setFrames, State.pushFrame, State.frames_setTop _ hr', State.setTop_of_frames _ hr', State.setFrames_setFrames, hr]
      rfl
    have hsame : U.sameButNew ({ U with heap := s₂.heap, slotsUsed := s₂.slotsUsed } : State) L mc ms := by
      refine ⟨?_, q2, q3, q4, q5, q6⟩
      obtain ⟨t, ht, -⟩ := State.frames_cons hr
      show ({ U with heap := s₂.heap, slotsUsed := s₂.slotsUsed } : State) = { U.setFrames U.frames with heap := s₂.heap, slotsUsed := s₂.slotsUsed }
      rw [State.setFrames_self ht]
    subst hg
    refine Or.inr ⟨q, ⟨(({ U with heap := s₂.heap, slotsUsed := s₂.slotsUsed } : State).setVm s₂.vm), Ls ++ L, c0 + mc, s0 + ms⟩,
      ⟨X.admits, X.cas, X.clock, X.frames, X.room, X.hears, X.method, X.code, (X.here.setHeapUsed s₂.heap s₂.slotsUsed).setVm hW'.alike, X.tail, State.WarmedH.trans X.warmed hW', X.limits, X.bytes, X.same.trans (hsame.setVm s.vm)⟩,
      ⟨g, mk, s₂, L, E, ce, rfl, rfl, hx, hce, hcv, hcl, rfl, hL, rfl, rfl⟩, ?_⟩
    show Steps p.tables e below _ (((({ U with heap := s₂.heap, slotsUsed := s₂.slotsUsed } : State).setVm s₂.vm).setTop g).pushFrame (.throwing q))
    rw [← hs₂]
    exact hsteps
end
variable {p : Program} {l : Launch} {e : Env} {R : Room} {s : State} {m : MethodId} {args : Array Value} {below : List Frame} {meth : Method} {c : Code} {T : State} {H : Heap} {locs : List Loc} {cells slots : Nat}
theorem vx_callVX (X : Stand p l e R s m args below meth c T locs cells slots) (hexec : p.tables.exec = Jvm.exec) {own C : String} {index : Nat} {y : MethodName} {bytes : ByteArray} {maxL : Nat} {ret : Option FieldType} {hh : List (Nat × Nat × Nat × Nat)}
    (hown : s.vm.findClass own = some m.cls) (hlink : (Cond.methodLink own index y).before args s = true) (hinst : (Cond.instanceMethod y).before args s = true) (hsel : (Cond.selects C y y).before args s = true)
    (hcode : (Cond.codeWith y bytes maxL ret hh).before args s = true) (hy : y.cls ≠ "java/lang/invoke/MethodHandle" ∧ y.cls ≠ "java/lang/invoke/VarHandle")
    {W9 : Nat} {Pre : Pt → Array Value → Prop} {Post : Pt → Array Value → Option Value → Pt → Prop} {PostX : Pt → Array Value → Addr → Pt → Prop} (hK : vx_Back l R p e below s args y 3 W9 Pre Post PostX)
    {b : Addr} {cellB : Cell} (hcell : T.heap[b]? = some cellB) (hobj : cellB.vm.isStatics = false) (hcls : s.vm.findClass C = some cellB.cls)
    {g : JFrame} (hg : g.method = m) (hsize : g.locals.size = c.maxLocals) {argsL rest : List Value} (hlen : ∀ sig, parseMethodDescriptor y.desc = some sig → argsL.length = sig.parameters.length)
    (hstack : g.stack = argsL.reverse ++ .ref b :: rest) (hW : 2 * g.monitorRoom + (rest.map fun v => v.category).sum ≤ W9) (hdg : decode c.code g.pc = .ok (.invokevirtual index, 3))
    (hpre : ∀ vm₁, s.WarmedH vm₁ → Pre ⟨T.setVm vm₁, locs, cells, slots⟩ (Value.ref b :: argsL).toArray) :
    (∃ (v : Option Value) (vm₁ : Vm) (B : Pt), s.WarmedH vm₁ ∧ Stand p l e R s m args below meth c B.U B.locs B.cells B.slots ∧ Post ⟨T.setVm vm₁, locs, cells, slots⟩ (Value.ref b :: argsL).toArray v B ∧
      ∀ target, Steps p.tables e below (B.U.setTop { g with pc := g.pc + 3, stack := v.toList ++ rest }) target → Steps p.tables e below (T.setTop g) target) ∨
    (∃ (q : Addr) (vm₁ : Vm) (B : Pt), s.WarmedH vm₁ ∧ Stand p l e R s m args below meth c B.U B.locs B.cells B.slots ∧ PostX ⟨T.setVm vm₁, locs, cells, slots⟩ (Value.ref b :: argsL).toArray q B ∧
      Steps p.tables e below (T.setTop g) ((B.U.setTop { g with stack := rest }).pushFrame (.throwing q))) := by
  obtain ⟨mk, methM, hnamed, hmethM, hstM, habM⟩ := Cond.instanceMethod_spec hinst
  obtain ⟨m8, methM', cM, hn8, hmethM', -, -, -, -, -, -, hsigM⟩ := Cond.codeWith_spec hcode
  cases Option.some.inj (hn8.symm.trans hnamed)
  cases hmethM.symm.trans hmethM'
  obtain ⟨c2, r2, m2, q1, q2, q3, q4, kP, hkP, hkPi⟩ := Cond.selects_spec hsel
  cases hcls.symm.trans q1
  cases (State.methodFound?_of_named hnamed hy).symm.trans q2
  cases hnamed.symm.trans q3
  have hselP : selectMethod e.platform s.vm cellB.cls mk = .method mk := by rw [Launch.admits_selectMethod X.admits]; exact q4
  obtain ⟨vm₁, X₁, hstep₁⟩ := X.invokevirtual hexec hown hlink hnamed hmethM hstM hkP hkPi hy (a := b) (cell := cellB) hcell
    (fun z h => by rw [h] at hobj; cases hobj) hselP hmethM habM hkP hkPi (g := g) hg (argsL := argsL) (rest := rest) (hlen _ hsigM) hstack hdg
  rcases hK m meth c ⟨T.setVm vm₁, locs, cells, slots⟩ { g with stack := rest } (.invokevirtual index) mk (Value.ref b :: argsL).toArray X₁ hg hsize hdg hW (X₁.named hnamed) (hpre vm₁ X₁.warmed) with ⟨v, B, X', hpost, hsteps⟩ | ⟨q, B, X', hpost, hsteps⟩
  · exact Or.inl ⟨v, vm₁, B, X₁.warmed, X', hpost, fun target h => hstep₁ _ fun acts => by rw [doInvoke_state]; exact hsteps.trans h⟩
  · exact Or.inr ⟨q, vm₁, B, X₁.warmed, X', hpost, hstep₁ _ fun acts => by rw [doInvoke_state]; exact hsteps⟩
theorem vx_callSX (X : Stand p l e R s m args below meth c T locs cells slots) (hexec : p.tables.exec = Jvm.exec) {own : String} {index : Nat} {y : MethodName} {bytes : ByteArray} {maxL : Nat} {ret : Option FieldType} {hh : List (Nat × Nat × Nat × Nat)}
    (hown : s.vm.findClass own = some m.cls) (hlink : (Cond.methodLink own index y).before args s = true) (hstat : (Cond.static y).before args s = true) (hinit : (Cond.initialized y.cls).before args s = true)
    (hcode : (Cond.codeWith y bytes maxL ret hh).before args s = true) (hy : y.cls ≠ "java/lang/invoke/MethodHandle" ∧ y.cls ≠ "java/lang/invoke/VarHandle")
    {W9 : Nat} {Pre : Pt → Array Value → Prop} {Post : Pt → Array Value → Option Value → Pt → Prop} {PostX : Pt → Array Value → Addr → Pt → Prop} (hK : vx_Back l R p e below s args y 3 W9 Pre Post PostX)
    {g : JFrame} (hg : g.method = m) (hsize : g.locals.size = c.maxLocals) {argsL rest : List Value} (hlen : ∀ sig, parseMethodDescriptor y.desc = some sig → argsL.length = sig.parameters.length)
    (hstack : g.stack = argsL.reverse ++ rest) (hW : 2 * g.monitorRoom + (rest.map fun v => v.category).sum ≤ W9) (hdg : decode c.code g.pc = .ok (.invokestatic index, 3))
    (hpre : ∀ vm₁, s.WarmedH vm₁ → Pre ⟨T.setVm vm₁, locs, cells, slots⟩ argsL.toArray) :
    (∃ (v : Option Value) (vm₁ : Vm) (B : Pt), s.WarmedH vm₁ ∧ Stand p l e R s m args below meth c B.U B.locs B.cells B.slots ∧ Post ⟨T.setVm vm₁, locs, cells, slots⟩ argsL.toArray v B ∧
      ∀ target, Steps p.tables e below (B.U.setTop { g with pc := g.pc + 3, stack := v.toList ++ rest }) target → Steps p.tables e below (T.setTop g) target) ∨
    (∃ (q : Addr) (vm₁ : Vm) (B : Pt), s.WarmedH vm₁ ∧ Stand p l e R s m args below meth c B.U B.locs B.cells B.slots ∧ PostX ⟨T.setVm vm₁, locs, cells, slots⟩ argsL.toArray q B ∧
      Steps p.tables e below (T.setTop g) ((B.U.setTop { g with stack := rest }).pushFrame (.throwing q))) := by
  obtain ⟨mk, methM, cM, hnamed, hmethM, -, -, -, -, -, -, hsigM⟩ := Cond.codeWith_spec hcode
  have hstatic : methM.isStatic = true := Cond.static_spec hnamed hmethM hstat
  obtain ⟨kP, hkP, -⟩ := className_of_methodNamed hnamed
  have hinitP : kP.init = .initialized := Cond.initialized_spec (findClass_of_methodNamed hnamed) hkP hinit
  obtain ⟨vm₁, X₁, hstep₁⟩ := X.invokestatic hexec hown hlink hnamed hmethM hstatic hkP hinitP hy (g := g) hg (argsL := argsL) (rest := rest) (hlen _ hsigM) hstack hdg
  rcases hK m meth c ⟨T.setVm vm₁, locs, cells, slots⟩ { g with stack := rest } (.invokestatic index) mk argsL.toArray X₁ hg hsize hdg hW (X₁.named hnamed) (hpre vm₁ X₁.warmed) with ⟨v, B, X', hpost, hsteps⟩ | ⟨q, B, X', hpost, hsteps⟩
  · exact Or.inl ⟨v, vm₁, B, X₁.warmed, X', hpost, fun target h => hstep₁ _ fun acts => by rw [doInvoke_state]; exact hsteps.trans h⟩
  · exact Or.inr ⟨q, vm₁, B, X₁.warmed, X', hpost, hstep₁ _ fun acts => by rw [doInvoke_state]; exact hsteps⟩
theorem vx_callVW (X : Stand p l e R s m args below meth c T locs cells slots) (hexec : p.tables.exec = Jvm.exec) {own C : String} {index : Nat} {y : MethodName} {bytes : ByteArray} {maxL : Nat} {ret : Option FieldType} {hh : List (Nat × Nat × Nat × Nat)}
    (hown : s.vm.findClass own = some m.cls) (hlink : (Cond.methodLink own index y).before args s = true) (hinst : (Cond.instanceMethod y).before args s = true) (hsel : (Cond.selects C y y).before args s = true)
    (hcode : (Cond.codeWith y bytes maxL ret hh).before args s = true) (hy : y.cls ≠ "java/lang/invoke/MethodHandle" ∧ y.cls ≠ "java/lang/invoke/VarHandle")
    {W9 : Nat} {Pre : Pt → Array Value → Prop} {Post : Pt → Array Value → Option Value → Pt → Prop} (hK : Back l R p e below s args y 3 W9 Pre Post)
    {b : Addr} {cellB : Cell} (hcell : T.heap[b]? = some cellB) (hobj : cellB.vm.isStatics = false) (hcls : s.vm.findClass C = some cellB.cls)
    {g : JFrame} (hg : g.method = m) (hsize : g.locals.size = c.maxLocals) {argsL rest : List Value} (hlen : ∀ sig, parseMethodDescriptor y.desc = some sig → argsL.length = sig.parameters.length)
    (hstack : g.stack = argsL.reverse ++ .ref b :: rest) (hW : 2 * g.monitorRoom + (rest.map fun v => v.category).sum ≤ W9) (hdg : decode c.code g.pc = .ok (.invokevirtual index, 3))
    (hpre : ∀ vm₁, s.WarmedH vm₁ → Pre ⟨T.setVm vm₁, locs, cells, slots⟩ (Value.ref b :: argsL).toArray) :
    ∃ (v : Option Value) (vm₁ : Vm) (B : Pt), s.WarmedH vm₁ ∧ Stand p l e R s m args below meth c B.U B.locs B.cells B.slots ∧ Post ⟨T.setVm vm₁, locs, cells, slots⟩ (Value.ref b :: argsL).toArray v B ∧
      ∀ target, Steps p.tables e below (B.U.setTop { g with pc := g.pc + 3, stack := v.toList ++ rest }) target → Steps p.tables e below (T.setTop g) target := by
  obtain ⟨mk, methM, hnamed, hmethM, hstM, habM⟩ := Cond.instanceMethod_spec hinst
  obtain ⟨m8, methM', cM, hn8, hmethM', -, -, -, -, -, -, hsigM⟩ := Cond.codeWith_spec hcode
  cases Option.some.inj (hn8.symm.trans hnamed)
  cases hmethM.symm.trans hmethM'
  obtain ⟨c2, r2, m2, q1, q2, q3, q4, kP, hkP, hkPi⟩ := Cond.selects_spec hsel
  cases hcls.symm.trans q1
  cases (State.methodFound?_of_named hnamed hy).symm.trans q2
  cases hnamed.symm.trans q3
  have hselP : selectMethod e.platform s.vm cellB.cls mk = .method mk := by rw [Launch.admits_selectMethod X.admits]; exact q4
  obtain ⟨vm₁, X₁, hstep₁⟩ := X.invokevirtual hexec hown hlink hnamed hmethM hstM hkP hkPi hy (a := b) (cell := cellB) hcell
    (fun z h => by rw [h] at hobj; cases hobj) hselP hmethM habM hkP hkPi (g := g) hg (argsL := argsL) (rest := rest) (hlen _ hsigM) hstack hdg
  obtain ⟨v, B, X', hpost, hsteps⟩ := hK m meth c ⟨T.setVm vm₁, locs, cells, slots⟩ { g with stack := rest } (.invokevirtual index) mk (Value.ref b :: argsL).toArray X₁ hg hsize hdg hW (X₁.named hnamed) (hpre vm₁ X₁.warmed)
  exact ⟨v, vm₁, B, X₁.warmed, X', hpost, fun target h => hstep₁ _ fun acts => by rw [doInvoke_state]; exact hsteps.trans h⟩
abbrev vx_CVW (R : Room) (s : State) (args : Array Value) (own C : String) (index : Nat) (y : MethodName) (bytes : ByteArray) (maxL : Nat) (ret : Option FieldType) (hh : List (Nat × Nat × Nat × Nat)) (ws : List Cond) (rm : Room) (mc ms n : Nat) : Prop :=
  (rm.cells = mc ∧ rm.slots = ms ∧ rm.frames + 1 ≤ R.frames ∧ 8 + (maxL + 11) + rm.locals ≤ R.locals ∧ (∀ w ∈ ws, ∀ (a' : Array Value) (U : State), s.WarmedH U.vm → w.before a' U = true) ∧ Cond.codeWith y bytes maxL ret hh ∈ ws) ∧
  (Cond.codeWith y bytes maxL ret hh).before args s = true ∧ (Cond.initialized y.cls).before args s = true ∧ (y.cls ≠ "java/lang/invoke/MethodHandle" ∧ y.cls ≠ "java/lang/invoke/VarHandle") ∧
  (∀ sig, parseMethodDescriptor y.desc = some sig → n = sig.parameters.length) ∧ (Cond.methodLink own index y).before args s = true ∧ (Cond.instanceMethod y).before args s = true ∧ (Cond.selects C y y).before args s = true
theorem vx_cwVW {own C : String} {index maxL mc ms : Nat} {y : MethodName} {bytes : ByteArray} {ret : Option FieldType} {hh : List (Nat × Nat × Nat × Nat)} {Ts ws ws' : List Cond} {rm : Room} (n : Nat) (ht : ∀ w ∈ Ts, w.before args s = true) (hT : GoodIn Ts (wsV own index C y ws)) (hw : ws = Cond.codeWith y bytes maxL ret hh :: ws') (hrc : rm.cells = mc) (hrs : rm.slots = ms)
    (hd : y.cls = C ∧ y.cls ≠ "java/lang/invoke/MethodHandle" ∧ y.cls ≠ "java/lang/invoke/VarHandle" ∧ (parseMethodDescriptor y.desc).map (fun d => d.parameters.length) = some n) (hR : rm.frames + 1 ≤ R.frames ∧ 8 + (maxL + 11) + rm.locals ≤ R.locals) :
    vx_CVW R s args own C index y bytes maxL ret hh ws rm mc ms n := by
  obtain ⟨hC, hd⟩ := hd
  subst hC
  have ok : ∀ w ∈ wsV own index y.cls y ws, w.before args s = true := fun w h => ht w (hT w h).1
  have hG : GoodIn Ts ws := fun w h => hT w (by unfold wsV; exact List.mem_append_right _ h)
  have hc : Cond.codeWith y bytes maxL ret hh ∈ ws := by rw [hw]; exact List.mem_cons_self
  refine ⟨⟨hrc, hrs, hR.1, hR.2, pay_in ht hG, hc⟩, ht _ (hG _ hc).1, ok _ (by simp [wsV]), ⟨hd.1, hd.2.1⟩, fun sig h => ?_, ok _ (by simp [wsV]), ok _ (by simp [wsV]), ok _ (by simp [wsV])⟩
  have h2 := hd.2.2
  rw [h] at h2
  exact (Option.some.inj h2).symm
theorem vx_runVW {y : MethodName} {bytes cc : ByteArray} {maxL nL mc ms n index : Nat} {ret : Option FieldType} {hh : List (Nat × Nat × Nat × Nat)} {ws : List Cond} {rm : Room} {Pc : Array Value → State → Prop} {Qc : Array Value → State → Outcome → State → Prop} {free : Addr → Prop} {Ts : List Cond} {own C : String} {b : Addr} {As rest : List Value} {g : JFrame}
    (S : CallFix p m c cc nL s args Ts own) (hM : Met l y ws rm Pc Qc mc ms free) (cw : vx_CVW R s args own C index y bytes maxL ret hh ws rm mc ms n) (hp : PreV s H C b Pc As)
    (hg : g.method = m) (hn : As.length = n) (hsize : g.locals.size = nL) (hstack : g.stack = As.reverse ++ .ref b :: rest) (hW : 2 * g.monitorRoom + (rest.map fun v => v.category).sum ≤ 8) (hdg : decode cc g.pc = .ok (.invokevirtual index, 3)) (hf : cells + mc ≤ R.cells ∧ slots + ms ≤ R.slots) :
    va_Run p l e R s m args below meth c H locs cells slots mc ms g rest (Qc (Value.ref b :: As).toArray) free := by
  obtain ⟨⟨hrc, hrs, hfr, hlo, hws, hcw⟩, hcode, hini, hy, hlen, hl, hin, hse⟩ := cw
  have hK : Back l R p e below s args y 3 8 (PreOf R mc ms Pc) (PostOf Qc mc ms free) := va_backW (hh := hh) (bytes := bytes) (maxL := maxL) (ret := ret) hM hp.1 hrc hrs hfr hlo hws hcw (fun a' U hW => word_at hW (Or.inl (by first | rfl | simp [Cond.onTables, Cond.keeps, Cond.steady])) hini)
  obtain ⟨hx, hb, hml, ho, -⟩ := S
  obtain ⟨-, ⟨cellB, hcB, hoB, hclB⟩, hPc⟩ := hp
  intro T hT X
  obtain ⟨v, vm₁, ⟨U', l2, c2, s2⟩, hW₁, X', ⟨g', mk, t, L, e1, e2, hq, h1, hL, h2, h3⟩, st⟩ := vx_callVW X hx (C := C) (hh := hh) (bytes := bytes) (maxL := maxL) (ret := ret) ho hl hin hse hcode hy hK (by rw [hT]; exact hcB) hoB hclB hg (hsize.trans hml.symm) (argsL := As) (rest := rest) (fun sig h => hn.trans (hlen sig h)) hstack hW (by rw [hb]; exact hdg)
    (fun vm₁ hW₁ => ⟨hf.1, hf.2, hPc (T.setVm vm₁) hT hW₁⟩)
  dsimp only [Pt.U, Pt.locs, Pt.cells, Pt.slots] at X' e1 e2 h1 h2 h3 st
  subst h1; subst h2; subst h3
  exact ⟨v, (T.setVm vm₁).calling g' mk (Value.ref b :: As).toArray, t, U', L, hT, X', hL, e1, e2, hq, st⟩
section
variable {y : MethodName} {bytes cc : ByteArray} {maxL nL mc ms n index : Nat} {ret : Option FieldType} {ws : List Cond} {rm : Room} {Pc : Array Value → State → Prop} {Qc : Array Value → State → Outcome → State → Prop} {XC : String → State → State → Prop} {free : Addr → Prop} {Ts : List Cond} {own C : String} {b : Addr} {As rest : List Value} {g : JFrame}
theorem vx_runVX {hh : List (Nat × Nat × Nat × Nat)} (S : CallFix p m c cc nL s args Ts own) (hM : vx_Met l y ws rm Pc Qc XC mc ms free) (cw : vx_CVW R s args own C index y bytes maxL ret hh ws rm mc ms n) (hp : PreV s H C b Pc As)
    (hg : g.method = m) (hn : As.length = n) (hsize : g.locals.size = nL) (hstack : g.stack = As.reverse ++ .ref b :: rest) (hW : 2 * g.monitorRoom + (rest.map fun v => v.category).sum ≤ 8) (hdg : decode cc g.pc = .ok (.invokevirtual index, 3)) (hf : cells + mc ≤ R.cells ∧ slots + ms ≤ R.slots) :
    vx_Run p l e R s m args below meth c H locs cells slots mc ms g rest (Qc (Value.ref b :: As).toArray) XC free := by
  obtain ⟨⟨hrc, hrs, hfr, hlo, hws, hcw⟩, hcode, hini, hy, hlen, hl, hin, hse⟩ := cw
  have hK : vx_Back l R p e below s args y 3 8 (PreOf R mc ms Pc) (PostOf Qc mc ms free) (vx_Post XC mc ms free) := vx_backW (hh := hh) (bytes := bytes) (maxL := maxL) (ret := ret) hM hp.1 hrc hrs hfr hlo hws hcw (fun a' U hW => word_at hW (Or.inl (by first | rfl | simp [Cond.onTables, Cond.keeps, Cond.steady])) hini)
  obtain ⟨hx, hb, hml, ho, -⟩ := S
  obtain ⟨-, ⟨cellB, hcB, hoB, hclB⟩, hPc⟩ := hp
  intro T hT X
  rcases vx_callVX X hx (C := C) (hh := hh) (bytes := bytes) (maxL := maxL) (ret := ret) ho hl hin hse hcode hy hK (by rw [hT]; exact hcB) hoB hclB hg (hsize.trans hml.symm) (argsL := As) (rest := rest) (fun sig h => hn.trans (hlen sig h)) hstack hW (by rw [hb]; exact hdg)
    (fun vm₁ hW₁ => ⟨hf.1, hf.2, hPc (T.setVm vm₁) hT hW₁⟩) with ⟨v, vm₁, ⟨U', l2, c2, s2⟩, hW₁, X', ⟨g', mk, t, L, e1, e2, hq, h1, hL, h2, h3⟩, st⟩ | ⟨q, vm₁, ⟨U', l2, c2, s2⟩, hW₁, X', ⟨g', mk, t, L, E, ce, e1, e2, hq, hce, hcv, hcl, h1, hL, h2, h3⟩, st⟩
  · dsimp only [Pt.U, Pt.locs, Pt.cells, Pt.slots] at X' e1 e2 h1 h2 h3 st
    subst h1; subst h2; subst h3
    exact Or.inl ⟨v, (T.setVm vm₁).calling g' mk (Value.ref b :: As).toArray, t, U', L, hT, X', hL, e1, e2, hq, st⟩
  · dsimp only [Pt.U, Pt.locs, Pt.cells, Pt.slots] at X' e1 e2 h1 h2 h3 st hcl
    subst h1; subst h2; subst h3
    exact Or.inr ⟨q, (T.setVm vm₁).calling g' mk (Value.ref b :: As).toArray, t, U', L, E, ce, hT, X', hL, e1, e2, hq, hce, hcv, vx_cls hW₁ hcl, st⟩
theorem vx_runSX {hh : List (Nat × Nat × Nat × Nat)} (S : CallFix p m c cc nL s args Ts own) (hM : vx_Met l y ws rm Pc Qc XC mc ms free) (cw : vx_CSW R s args own index y bytes maxL ret hh ws rm mc ms n) (hp : PreS s H Pc As)
    (hg : g.method = m) (hn : As.length = n) (hsize : g.locals.size = nL) (hstack : g.stack = As.reverse ++ rest) (hW : 2 * g.monitorRoom + (rest.map fun v => v.category).sum ≤ 8) (hdg : decode cc g.pc = .ok (.invokestatic index, 3)) (hf : cells + mc ≤ R.cells ∧ slots + ms ≤ R.slots) :
    vx_Run p l e R s m args below meth c H locs cells slots mc ms g rest (Qc As.toArray) XC free := by
  obtain ⟨⟨hrc, hrs, hfr, hlo, hws, hcw⟩, hcode, hini, hy, hlen, hl, hstt⟩ := cw
  have hK : vx_Back l R p e below s args y 3 8 (PreOf R mc ms Pc) (PostOf Qc mc ms free) (vx_Post XC mc ms free) := vx_backW (hh := hh) (bytes := bytes) (maxL := maxL) (ret := ret) hM hp.1 hrc hrs hfr hlo hws hcw (fun a' U hW => word_at hW (Or.inl (by first | rfl | simp [Cond.onTables, Cond.keeps, Cond.steady])) hini)
  obtain ⟨hx, hb, hml, ho, -⟩ := S
  intro T hT X
  rcases vx_callSX X hx (hh := hh) (bytes := bytes) (maxL := maxL) (ret := ret) ho hl hstt hini hcode hy hK hg (hsize.trans hml.symm) (argsL := As) (rest := rest) (fun sig h => hn.trans (hlen sig h)) hstack hW (by rw [hb]; exact hdg)
    (fun vm₁ hW₁ => ⟨hf.1, hf.2, hp.2 (T.setVm vm₁) hT hW₁⟩) with ⟨v, vm₁, ⟨U', l2, c2, s2⟩, hW₁, X', ⟨g', mk, t, L, e1, e2, hq, h1, hL, h2, h3⟩, st⟩ | ⟨q, vm₁, ⟨U', l2, c2, s2⟩, hW₁, X', ⟨g', mk, t, L, E, ce, e1, e2, hq, hce, hcv, hcl, h1, hL, h2, h3⟩, st⟩
  · dsimp only [Pt.U, Pt.locs, Pt.cells, Pt.slots] at X' e1 e2 h1 h2 h3 st
    subst h1; subst h2; subst h3
    exact Or.inl ⟨v, (T.setVm vm₁).calling g' mk As.toArray, t, U', L, hT, X', hL, e1, e2, hq, st⟩
  · dsimp only [Pt.U, Pt.locs, Pt.cells, Pt.slots] at X' e1 e2 h1 h2 h3 st hcl
    subst h1; subst h2; subst h3
    exact Or.inr ⟨q, (T.setVm vm₁).calling g' mk As.toArray, t, U', L, E, ce, hT, X', hL, e1, e2, hq, hce, hcv, vx_cls hW₁ hcl, st⟩
end
end VXH
theorem vx_ofWH {l : Launch} {y : MethodName} {ws ws' : List Cond} {rm : Room} {Pc : Array Value → State → Prop} {Qc : Array Value → State → Outcome → State → Prop} {XC : String → State → State → Prop} {mc ms : Nat} {free : Addr → Prop} {cc : ByteArray} {maxL : Nat} {ret : Option FieldType} {hh : List (Nat × Nat × Nat × Nat)}
    (hy : plainName y.cls = true) (hw : ws = Cond.codeWith y cc maxL ret hh :: ws')
    (body : ∀ p e s m args below meth c s₁, BodyLoose p l y (headSpec ws rm) cc maxL ret e s m args below meth c s₁ → c.maxLocals = maxL → Pc args s →
      W p l e (headSpec ws rm).room s m args below meth c s.heap [] 0 0 (vx_MQ below Qc XC args s mc ms free) (entryFrame m args maxL)) : vx_Met l y ws rm Pc Qc XC mc ms free := by
  refine MetFree.of_bodyS (code := cc) (maxLocals := maxL) (ret := ret) hy ?_ ?_
  · intro args s m h hn
    obtain ⟨m9, meth, c, hn9, h1, h2, h3, h4, -, h5, h6, -⟩ := Cond.codeWith_spec (atoms_spec (ws := ws) h _ (by rw [hw]; exact List.mem_cons_self))
    cases hn.symm.trans hn9
    exact ⟨meth, c, h1, h2, h3, h4, h5, h6⟩
  · intro p e s m args below meth c s₁ B hml hP _
    have hh0 : s₁.heap = s.heap := by rw [B.state]; rfl
    obtain ⟨t, a1, o, b1, b2, b3⟩ := body p e s m args below meth c s₁ B hml hP s₁ hh0 (Stand.of_body B)
    exact ⟨t, o, a1, b1, b2, b3⟩
/-! ===== END ===== -/
end
section
/-! names: classes, fields in the order of the slots, codes, methods (by names.py) -/
abbrev nm_T : String := "BindingBench$Term"
def tf_T : u_T := fun k => match k with
  | 0 => ("BindingBench$Term", "cells", "[I", false)
  | _ => ("BindingBench$Term", "size", "I", false)
def ty_T : Nat → FieldType := fun k => match k with
  | 0 => .array .int
  | _ => .int
theorem tn_T : ∀ a, a < 2 → ∀ b, b < 2 → a ≠ b → (tf_T a).2.1 ≠ (tf_T b).2.1 := by decide +kernel
theorem to_T : ∀ k, k < 2 → parseFieldDescriptor (tf_T k).2.2.1 = some (ty_T k) := by decide +kernel
abbrev nm_X : String := "BindingBench$Text"
def tf_X : u_T := fun k => match k with
  | 0 => ("BindingBench$Text", "bytes", "[B", false)
  | 1 => ("BindingBench$Text", "length", "I", false)
  | _ => ("BindingBench$Text", "brackets", "LBindingBench$Walk;", true)
def ty_X : Nat → FieldType := fun k => match k with
  | 0 => .array .byte
  | 1 => .int
  | _ => .object "BindingBench$Walk"
theorem tn_X : ∀ a, a < 3 → ∀ b, b < 3 → a ≠ b → (tf_X a).2.1 ≠ (tf_X b).2.1 := by decide +kernel
theorem to_X : ∀ k, k < 3 → parseFieldDescriptor (tf_X k).2.2.1 = some (ty_X k) := by decide +kernel
abbrev nm_W : String := "BindingBench$Walk"
def tf_W : u_T := fun k => match k with
  | 0 => ("BindingBench$Walk", "forApplied", "I", true)
  | 1 => ("BindingBench$Walk", "forFunction", "I", true)
  | 2 => ("BindingBench$Walk", "waiting", "[I", true)
  | 3 => ("BindingBench$Walk", "height", "I", false)
  | _ => ("BindingBench$Walk", "count", "I", false)
def ty_W : Nat → FieldType := fun k => match k with
  | 0 => .int
  | 1 => .int
  | 2 => .array .int
  | 3 => .int
  | _ => .int
theorem tn_W : ∀ a, a < 5 → ∀ b, b < 5 → a ≠ b → (tf_W a).2.1 ≠ (tf_W b).2.1 := by decide +kernel
theorem to_W : ∀ k, k < 5 → parseFieldDescriptor (tf_W k).2.2.1 = some (ty_W k) := by decide +kernel
abbrev nm_S : String := "BindingBench$Workshop"
def tf_S : u_T := fun k => match k with
  | 0 => ("BindingBench$Workshop", "made", "LBindingBench$Term;", false)
  | 1 => ("BindingBench$Workshop", "spare", "LBindingBench$Term;", false)
  | 2 => ("BindingBench$Workshop", "levels", "LBindingBench$Walk;", true)
  | 3 => ("BindingBench$Workshop", "binders", "LBindingBench$Walk;", true)
  | _ => ("BindingBench$Workshop", "innerBinders", "LBindingBench$Walk;", true)
def ty_S : Nat → FieldType := fun k => match k with
  | 0 => .object "BindingBench$Term"
  | 1 => .object "BindingBench$Term"
  | 2 => .object "BindingBench$Walk"
  | 3 => .object "BindingBench$Walk"
  | _ => .object "BindingBench$Walk"
theorem tn_S : ∀ a, a < 5 → ∀ b, b < 5 → a ≠ b → (tf_S a).2.1 ≠ (tf_S b).2.1 := by decide +kernel
theorem to_S : ∀ k, k < 5 → parseFieldDescriptor (tf_S k).2.2.1 = some (ty_S k) := by decide +kernel
abbrev nm_B : String := "BindingBench"
def tf_B : u_T := fun k => match k with
  | 0 => ("BindingBench", "registers", "[LBindingBench$Term;", true)
  | 1 => ("BindingBench", "workshop", "LBindingBench$Workshop;", true)
  | _ => ("BindingBench", "text", "LBindingBench$Text;", true)
def ty_B : Nat → FieldType := fun k => match k with
  | 0 => .array (.object "BindingBench$Term")
  | 1 => .object "BindingBench$Workshop"
  | _ => .object "BindingBench$Text"
theorem tn_B : ∀ a, a < 3 → ∀ b, b < 3 → a ≠ b → (tf_B a).2.1 ≠ (tf_B b).2.1 := by decide +kernel
theorem to_B : ∀ k, k < 3 → parseFieldDescriptor (tf_B k).2.2.1 = some (ty_B k) := by decide +kernel
abbrev nm_M : String := "BindingBenchModel"
def tf_M : u_T := fun k => match k with
  | 0 => ("BindingBenchModel", "thrown", "I", false)
  | 1 => ("BindingBenchModel", "register", "[[I", true)
  | 2 => ("BindingBenchModel", "size", "[I", true)
  | 3 => ("BindingBenchModel", "made", "[I", true)
  | 4 => ("BindingBenchModel", "work", "[I", true)
  | 5 => ("BindingBenchModel", "now", "[I", true)
  | 6 => ("BindingBenchModel", "madeSize", "I", false)
  | 7 => ("BindingBenchModel", "nowSize", "I", false)
  | 8 => ("BindingBenchModel", "beyond", "Z", false)
  | 9 => ("BindingBenchModel", "out", "[B", true)
  | 10 => ("BindingBenchModel", "outSize", "I", false)
  | 11 => ("BindingBenchModel", "open", "[I", true)
  | 12 => ("BindingBenchModel", "at", "I", false)
  | 13 => ("BindingBenchModel", "named", "I", false)
  | _ => ("BindingBenchModel", "names", "[I", true)
def ty_M : Nat → FieldType := fun k => match k with
  | 0 => .int
  | 1 => .array (.array .int)
  | 2 => .array .int
  | 3 => .array .int
  | 4 => .array .int
  | 5 => .array .int
  | 6 => .int
  | 7 => .int
  | 8 => .boolean
  | 9 => .array .byte
  | 10 => .int
  | 11 => .array .int
  | 12 => .int
  | 13 => .int
  | _ => .array .int
theorem tn_M : ∀ a, a < 15 → ∀ b, b < 15 → a ≠ b → (tf_M a).2.1 ≠ (tf_M b).2.1 := by decide +kernel
theorem to_M : ∀ k, k < 15 → parseFieldDescriptor (tf_M k).2.2.1 = some (ty_M k) := by decide +kernel
abbrev nm_L : String := "BindingBenchLaw"
abbrev cT_init : ByteArray := prog_2_method_1_code
def yT_init : MethodName := ⟨"BindingBench$Term", "<init>", "(I)V"⟩
abbrev cT_first : ByteArray := prog_2_method_2_code
def yT_first : MethodName := ⟨"BindingBench$Term", "first", "()I"⟩
abbrev cT_becomeFree : ByteArray := prog_2_method_3_code
def yT_becomeFree : MethodName := ⟨"BindingBench$Term", "becomeFree", "(I)V"⟩
abbrev cT_become : ByteArray := prog_2_method_4_code
def yT_become : MethodName := ⟨"BindingBench$Term", "become", "(LBindingBench$Term;)I"⟩
abbrev cT_reserve : ByteArray := prog_2_method_5_code
def yT_reserve : MethodName := ⟨"BindingBench$Term", "reserve", "(I)V"⟩
abbrev cT_clear : ByteArray := prog_2_method_6_code
def yT_clear : MethodName := ⟨"BindingBench$Term", "clear", "()V"⟩
abbrev cT_add : ByteArray := prog_2_method_7_code
def yT_add : MethodName := ⟨"BindingBench$Term", "add", "(I)V"⟩
abbrev cT_addAll : ByteArray := prog_2_method_8_code
def yT_addAll : MethodName := ⟨"BindingBench$Term", "addAll", "(LBindingBench$Term;II)V"⟩
abbrev cT_takes : ByteArray := prog_2_method_9_code
def yT_takes : MethodName := ⟨"BindingBench$Term", "takes", "(I)Z"⟩
abbrev cT_endOf : ByteArray := prog_2_method_10_code
def yT_endOf : MethodName := ⟨"BindingBench$Term", "endOf", "(I)I"⟩
abbrev cT_isRedex : ByteArray := prog_2_method_11_code
def yT_isRedex : MethodName := ⟨"BindingBench$Term", "isRedex", "(I)Z"⟩
abbrev cT_firstRedex : ByteArray := prog_2_method_12_code
def yT_firstRedex : MethodName := ⟨"BindingBench$Term", "firstRedex", "(I)I"⟩
abbrev cT_headRedex : ByteArray := prog_2_method_13_code
def yT_headRedex : MethodName := ⟨"BindingBench$Term", "headRedex", "()I"⟩
abbrev cT_redexes : ByteArray := prog_2_method_14_code
def yT_redexes : MethodName := ⟨"BindingBench$Term", "redexes", "()I"⟩
abbrev cT_kind : ByteArray := prog_2_method_15_code
def yT_kind : MethodName := ⟨"BindingBench$Term", "kind", "()I"⟩
abbrev cT_places : ByteArray := prog_2_method_16_code
def yT_places : MethodName := ⟨"BindingBench$Term", "places", "(I)I"⟩
abbrev cT_differentFree : ByteArray := prog_2_method_17_code
def yT_differentFree : MethodName := ⟨"BindingBench$Term", "differentFree", "()I"⟩
abbrev cT_equalTo : ByteArray := prog_2_method_18_code
def yT_equalTo : MethodName := ⟨"BindingBench$Term", "equalTo", "(LBindingBench$Term;)Z"⟩
abbrev cX_init : ByteArray := prog_3_method_1_code
def yX_init : MethodName := ⟨"BindingBench$Text", "<init>", "()V"⟩
abbrev cX_show : ByteArray := prog_3_method_2_code
def yX_show : MethodName := ⟨"BindingBench$Text", "show", "(LBindingBench$Term;)I"⟩
abbrev cX_addLeaf : ByteArray := prog_3_method_3_code
def yX_addLeaf : MethodName := ⟨"BindingBench$Text", "addLeaf", "(I)V"⟩
abbrev cX_add : ByteArray := prog_3_method_4_code
def yX_add : MethodName := ⟨"BindingBench$Text", "add", "(CI)V"⟩
abbrev cW_init : ByteArray := prog_4_method_1_code
def yW_init : MethodName := ⟨"BindingBench$Walk", "<init>", "(II)V"⟩
abbrev cW_start : ByteArray := prog_4_method_2_code
def yW_start : MethodName := ⟨"BindingBench$Walk", "start", "()V"⟩
abbrev cW_pass : ByteArray := prog_4_method_3_code
def yW_pass : MethodName := ⟨"BindingBench$Walk", "pass", "(I)V"⟩
abbrev cS_init : ByteArray := prog_5_method_1_code
def yS_init : MethodName := ⟨"BindingBench$Workshop", "<init>", "()V"⟩
abbrev cS_join : ByteArray := prog_5_method_2_code
def yS_join : MethodName := ⟨"BindingBench$Workshop", "join", "(LBindingBench$Term;LBindingBench$Term;)LBindingBench$Term;"⟩
abbrev cS_close : ByteArray := prog_5_method_3_code
def yS_close : MethodName := ⟨"BindingBench$Workshop", "close", "(LBindingBench$Term;I)LBindingBench$Term;"⟩
abbrev cS_replace : ByteArray := prog_5_method_4_code
def yS_replace : MethodName := ⟨"BindingBench$Workshop", "replace", "(LBindingBench$Term;ILBindingBench$Term;)LBindingBench$Term;"⟩
abbrev cS_fill : ByteArray := prog_5_method_5_code
def yS_fill : MethodName := ⟨"BindingBench$Workshop", "fill", "(LBindingBench$Term;LBindingBench$Term;)LBindingBench$Term;"⟩
abbrev cS_cut : ByteArray := prog_5_method_6_code
def yS_cut : MethodName := ⟨"BindingBench$Workshop", "cut", "(LBindingBench$Term;Z)LBindingBench$Term;"⟩
abbrev cS_contract : ByteArray := prog_5_method_7_code
def yS_contract : MethodName := ⟨"BindingBench$Workshop", "contract", "(LBindingBench$Term;I)LBindingBench$Term;"⟩
abbrev cS_reduce : ByteArray := prog_5_method_8_code
def yS_reduce : MethodName := ⟨"BindingBench$Workshop", "reduce", "(LBindingBench$Term;Z)I"⟩
abbrev cS_reduced : ByteArray := prog_5_method_9_code
def yS_reduced : MethodName := ⟨"BindingBench$Workshop", "reduced", "()LBindingBench$Term;"⟩
abbrev cS_addFilled : ByteArray := prog_5_method_10_code
def yS_addFilled : MethodName := ⟨"BindingBench$Workshop", "addFilled", "(LBindingBench$Term;IILBindingBench$Term;II)V"⟩
abbrev cS_addRaised : ByteArray := prog_5_method_11_code
def yS_addRaised : MethodName := ⟨"BindingBench$Workshop", "addRaised", "(LBindingBench$Term;III)V"⟩
abbrev cS_checked : ByteArray := prog_5_method_12_code
def yS_checked : MethodName := ⟨"BindingBench$Workshop", "checked", "()LBindingBench$Term;"⟩
abbrev cS_isTooDeep : ByteArray := prog_5_method_13_code
def yS_isTooDeep : MethodName := ⟨"BindingBench$Workshop", "isTooDeep", "(LBindingBench$Term;)Z"⟩
abbrev cS_depth : ByteArray := prog_5_method_14_code
def yS_depth : MethodName := ⟨"BindingBench$Workshop", "depth", "(LBindingBench$Term;)I"⟩
abbrev cB_init : ByteArray := prog_1_method_1_code
def yB_init : MethodName := ⟨"BindingBench", "<init>", "()V"⟩
abbrev cB_free : ByteArray := prog_1_method_2_code
def yB_free : MethodName := ⟨"BindingBench", "free", "(II)V"⟩
abbrev cB_apply : ByteArray := prog_1_method_3_code
def yB_apply : MethodName := ⟨"BindingBench", "apply", "(III)I"⟩
abbrev cB_bind : ByteArray := prog_1_method_4_code
def yB_bind : MethodName := ⟨"BindingBench", "bind", "(III)I"⟩
abbrev cB_put : ByteArray := prog_1_method_5_code
def yB_put : MethodName := ⟨"BindingBench", "put", "(IIII)I"⟩
abbrev cB_open : ByteArray := prog_1_method_6_code
def yB_open : MethodName := ⟨"BindingBench", "open", "(III)I"⟩
abbrev cB_part : ByteArray := prog_1_method_7_code
def yB_part : MethodName := ⟨"BindingBench", "part", "(IIZ)V"⟩
abbrev cB_step : ByteArray := prog_1_method_8_code
def yB_step : MethodName := ⟨"BindingBench", "step", "(II)Z"⟩
abbrev cB_head : ByteArray := prog_1_method_9_code
def yB_head : MethodName := ⟨"BindingBench", "head", "(II)I"⟩
abbrev cB_normal : ByteArray := prog_1_method_10_code
def yB_normal : MethodName := ⟨"BindingBench", "normal", "(II)I"⟩
abbrev cB_same : ByteArray := prog_1_method_11_code
def yB_same : MethodName := ⟨"BindingBench", "same", "(II)Z"⟩
abbrev cB_about : ByteArray := prog_1_method_12_code
def yB_about : MethodName := ⟨"BindingBench", "about", "(II)I"⟩
abbrev cB_has : ByteArray := prog_1_method_13_code
def yB_has : MethodName := ⟨"BindingBench", "has", "(II)I"⟩
abbrev cB_write : ByteArray := prog_1_method_14_code
def yB_write : MethodName := ⟨"BindingBench", "write", "(I)I"⟩
abbrev cB_out : ByteArray := prog_1_method_15_code
def yB_out : MethodName := ⟨"BindingBench", "out", "(I)I"⟩
abbrev cB_register : ByteArray := prog_1_method_16_code
def yB_register : MethodName := ⟨"BindingBench", "register", "(I)LBindingBench$Term;"⟩
abbrev cB_checkFree : ByteArray := prog_1_method_17_code
def yB_checkFree : MethodName := ⟨"BindingBench", "checkFree", "(I)V"⟩
abbrev cM_init : ByteArray := prog_7_method_1_code
def yM_init : MethodName := ⟨"BindingBenchModel", "<init>", "()V"⟩
abbrev cM_thrown : ByteArray := prog_7_method_2_code
def yM_thrown : MethodName := ⟨"BindingBenchModel", "thrown", "()I"⟩
abbrev cM_refuse : ByteArray := prog_7_method_3_code
def yM_refuse : MethodName := ⟨"BindingBenchModel", "refuse", "(IZ)Z"⟩
abbrev cM_none : ByteArray := prog_7_method_4_code
def yM_none : MethodName := ⟨"BindingBenchModel", "none", "(I)Z"⟩
abbrev cM_begin : ByteArray := prog_7_method_5_code
def yM_begin : MethodName := ⟨"BindingBenchModel", "begin", "()V"⟩
abbrev cM_add : ByteArray := prog_7_method_6_code
def yM_add : MethodName := ⟨"BindingBenchModel", "add", "(I)V"⟩
abbrev cM_add2 : ByteArray := prog_7_method_7_code
def yM_add2 : MethodName := ⟨"BindingBenchModel", "add", "([III)V"⟩
abbrev cM_add3 : ByteArray := prog_7_method_8_code
def yM_add3 : MethodName := ⟨"BindingBenchModel", "add", "([IIII[III)V"⟩
abbrev cM_end : ByteArray := prog_7_method_9_code
def yM_end : MethodName := ⟨"BindingBenchModel", "end", "([II)I"⟩
abbrev cM_depth : ByteArray := prog_7_method_10_code
def yM_depth : MethodName := ⟨"BindingBenchModel", "depth", "([II)I"⟩
abbrev cM_renamed : ByteArray := prog_7_method_11_code
def yM_renamed : MethodName := ⟨"BindingBenchModel", "renamed", "()V"⟩
abbrev cM_rename : ByteArray := prog_7_method_12_code
def yM_rename : MethodName := ⟨"BindingBenchModel", "rename", "()V"⟩
abbrev cM_whole : ByteArray := prog_7_method_13_code
def yM_whole : MethodName := ⟨"BindingBenchModel", "whole", "()Z"⟩
abbrev cM_keep : ByteArray := prog_7_method_14_code
def yM_keep : MethodName := ⟨"BindingBenchModel", "keep", "(I)I"⟩
abbrev cM_free : ByteArray := prog_7_method_15_code
def yM_free : MethodName := ⟨"BindingBenchModel", "free", "(II)V"⟩
abbrev cM_apply : ByteArray := prog_7_method_16_code
def yM_apply : MethodName := ⟨"BindingBenchModel", "apply", "(III)I"⟩
abbrev cM_bind : ByteArray := prog_7_method_17_code
def yM_bind : MethodName := ⟨"BindingBenchModel", "bind", "(III)I"⟩
abbrev cM_put : ByteArray := prog_7_method_18_code
def yM_put : MethodName := ⟨"BindingBenchModel", "put", "(IIII)I"⟩
abbrev cM_open : ByteArray := prog_7_method_19_code
def yM_open : MethodName := ⟨"BindingBenchModel", "open", "(III)I"⟩
abbrev cM_part : ByteArray := prog_7_method_20_code
def yM_part : MethodName := ⟨"BindingBenchModel", "part", "(IIZ)V"⟩
abbrev cM_begins : ByteArray := prog_7_method_21_code
def yM_begins : MethodName := ⟨"BindingBenchModel", "begins", "(I)V"⟩
abbrev cM_stepped : ByteArray := prog_7_method_22_code
def yM_stepped : MethodName := ⟨"BindingBenchModel", "stepped", "(I)Z"⟩
abbrev cM_isStep : ByteArray := prog_7_method_23_code
def yM_isStep : MethodName := ⟨"BindingBenchModel", "isStep", "(I)Z"⟩
abbrev cM_first : ByteArray := prog_7_method_24_code
def yM_first : MethodName := ⟨"BindingBenchModel", "first", "()I"⟩
abbrev cM_atHead : ByteArray := prog_7_method_25_code
def yM_atHead : MethodName := ⟨"BindingBenchModel", "atHead", "()I"⟩
abbrev cM_keepNow : ByteArray := prog_7_method_26_code
def yM_keepNow : MethodName := ⟨"BindingBenchModel", "keepNow", "(I)V"⟩
abbrev cM_step : ByteArray := prog_7_method_27_code
def yM_step : MethodName := ⟨"BindingBenchModel", "step", "(II)Z"⟩
abbrev cM_all : ByteArray := prog_7_method_28_code
def yM_all : MethodName := ⟨"BindingBenchModel", "all", "(IIZ)I"⟩
abbrev cM_head : ByteArray := prog_7_method_29_code
def yM_head : MethodName := ⟨"BindingBenchModel", "head", "(II)I"⟩
abbrev cM_normal : ByteArray := prog_7_method_30_code
def yM_normal : MethodName := ⟨"BindingBenchModel", "normal", "(II)I"⟩
abbrev cM_same : ByteArray := prog_7_method_31_code
def yM_same : MethodName := ⟨"BindingBenchModel", "same", "(II)Z"⟩
abbrev cM_places : ByteArray := prog_7_method_32_code
def yM_places : MethodName := ⟨"BindingBenchModel", "places", "(II)I"⟩
abbrev cM_about : ByteArray := prog_7_method_33_code
def yM_about : MethodName := ⟨"BindingBenchModel", "about", "(II)I"⟩
abbrev cM_has : ByteArray := prog_7_method_34_code
def yM_has : MethodName := ⟨"BindingBenchModel", "has", "(II)I"⟩
abbrev cM_say : ByteArray := prog_7_method_35_code
def yM_say : MethodName := ⟨"BindingBenchModel", "say", "(I)V"⟩
abbrev cM_written : ByteArray := prog_7_method_36_code
def yM_written : MethodName := ⟨"BindingBenchModel", "written", "(III)I"⟩
abbrev cM_write : ByteArray := prog_7_method_37_code
def yM_write : MethodName := ⟨"BindingBenchModel", "write", "(I)I"⟩
abbrev cM_out : ByteArray := prog_7_method_38_code
def yM_out : MethodName := ⟨"BindingBenchModel", "out", "(I)I"⟩
abbrev cL_free : ByteArray := method_3_code
def yL_free : MethodName := ⟨"BindingBenchLaw", "free", "(LBindingBench;II)I"⟩
abbrev cL_apply : ByteArray := method_4_code
def yL_apply : MethodName := ⟨"BindingBenchLaw", "apply", "(LBindingBench;III[J)I"⟩
abbrev cL_bind : ByteArray := method_5_code
def yL_bind : MethodName := ⟨"BindingBenchLaw", "bind", "(LBindingBench;III[J)I"⟩
abbrev cL_put : ByteArray := method_6_code
def yL_put : MethodName := ⟨"BindingBenchLaw", "put", "(LBindingBench;IIII[J)I"⟩
abbrev cL_open : ByteArray := method_7_code
def yL_open : MethodName := ⟨"BindingBenchLaw", "open", "(LBindingBench;III[J)I"⟩
abbrev cL_part : ByteArray := method_8_code
def yL_part : MethodName := ⟨"BindingBenchLaw", "part", "(LBindingBench;IIZ)I"⟩
abbrev cL_step : ByteArray := method_9_code
def yL_step : MethodName := ⟨"BindingBenchLaw", "step", "(LBindingBench;II[J)I"⟩
abbrev cL_head : ByteArray := method_10_code
def yL_head : MethodName := ⟨"BindingBenchLaw", "head", "(LBindingBench;II[J)I"⟩
abbrev cL_normal : ByteArray := method_11_code
def yL_normal : MethodName := ⟨"BindingBenchLaw", "normal", "(LBindingBench;II[J)I"⟩
abbrev cL_same : ByteArray := method_12_code
def yL_same : MethodName := ⟨"BindingBenchLaw", "same", "(LBindingBench;II[J)I"⟩
abbrev cL_about : ByteArray := method_13_code
def yL_about : MethodName := ⟨"BindingBenchLaw", "about", "(LBindingBench;II[J)I"⟩
abbrev cL_has : ByteArray := method_14_code
def yL_has : MethodName := ⟨"BindingBenchLaw", "has", "(LBindingBench;II[J)I"⟩
abbrev cL_write : ByteArray := method_15_code
def yL_write : MethodName := ⟨"BindingBenchLaw", "write", "(LBindingBench;I[J)I"⟩
abbrev cL_out : ByteArray := method_16_code
def yL_out : MethodName := ⟨"BindingBenchLaw", "out", "(LBindingBench;I[J)I"⟩
abbrev cL_law : ByteArray := code
def yL_law : MethodName := ⟨"BindingBenchLaw", "law", "([I)Z"⟩
abbrev cJ_bitCount : ByteArray := prog_14_method_50_code
def yJ_bitCount : MethodName := ⟨"java/lang/Long", "bitCount", "(J)I"⟩
abbrev cJ_copyOf : ByteArray := prog_20_method_121_code
def yJ_copyOf : MethodName := ⟨"java/util/Arrays", "copyOf", "([BI)[B"⟩
abbrev cJ_fill : ByteArray := prog_20_method_103_code
def yJ_fill : MethodName := ⟨"java/util/Arrays", "fill", "([II)V"⟩
/-- the classes whose objects the worlds hold -/
abbrev cl_all : List vw_C := [(nm_T, tf_T, 2), (nm_X, tf_X, 3), (nm_W, tf_W, 5), (nm_S, tf_S, 5), (nm_B, tf_B, 3), (nm_M, tf_M, 15)]
end
section
/-! words of the tables (by names.py) -/
def gw_l : List Cond := lw_tbl.filter goodWord
theorem gw_in {w : Cond} (h : w ∈ tables_1) (hg : goodWord w = true) : w ∈ gw_l := List.mem_filter.mpr ⟨List.mem_append_right _ h, hg⟩
theorem gw_sel {q : MethodName × Nat} (h : q ∈ lw_privs) (hg : goodWord (Cond.selects q.1.cls q.1 q.1) = true) : Cond.selects q.1.cls q.1 q.1 ∈ gw_l := List.mem_filter.mpr ⟨List.mem_append_left _ (List.mem_map.mpr ⟨q, h, rfl⟩), hg⟩
theorem gw_good : GoodIn gw_l gw_l := fun w hw => ⟨hw, good_of_word (List.mem_filter.mp hw).2⟩
theorem gw_sub {c d : Cond} (h : d ∈ gw_l) : GoodIn (c :: gw_l) (d :: gw_l) := by
  intro w hw
  rcases List.mem_cons.mp hw with rfl | hw
  · exact ⟨List.mem_cons_of_mem _ h, good_of_word (List.mem_filter.mp h).2⟩
  · exact ⟨List.mem_cons_of_mem _ hw, good_of_word (List.mem_filter.mp hw).2⟩
theorem gz_L : Cond.initialized "BindingBenchLaw" ∈ gw_l := gw_in (List.mem_of_getElem? (i := 0) (by decide +kernel)) rfl
theorem gz_B : Cond.initialized "BindingBench" ∈ gw_l := gw_in (List.mem_of_getElem? (i := 1) (by decide +kernel)) rfl
theorem gz_T : Cond.initialized "BindingBench$Term" ∈ gw_l := gw_in (List.mem_of_getElem? (i := 2) (by decide +kernel)) rfl
theorem gz_S : Cond.initialized "BindingBench$Workshop" ∈ gw_l := gw_in (List.mem_of_getElem? (i := 3) (by decide +kernel)) rfl
theorem gz_W : Cond.initialized "BindingBench$Walk" ∈ gw_l := gw_in (List.mem_of_getElem? (i := 4) (by decide +kernel)) rfl
theorem gz_X : Cond.initialized "BindingBench$Text" ∈ gw_l := gw_in (List.mem_of_getElem? (i := 5) (by decide +kernel)) rfl
theorem gz_M : Cond.initialized "BindingBenchModel" ∈ gw_l := gw_in (List.mem_of_getElem? (i := 6) (by decide +kernel)) rfl
theorem gz_Ja : Cond.initialized "java/util/Arrays" ∈ gw_l := gw_in (List.mem_of_getElem? (i := 7) (by decide +kernel)) rfl
theorem gz_Jt : Cond.initialized "java/lang/Throwable" ∈ gw_l := gw_in (List.mem_of_getElem? (i := 8) (by decide +kernel)) rfl
theorem gz_Je : Cond.initialized "java/lang/Exception" ∈ gw_l := gw_in (List.mem_of_getElem? (i := 9) (by decide +kernel)) rfl
theorem gz_Jr : Cond.initialized "java/lang/RuntimeException" ∈ gw_l := gw_in (List.mem_of_getElem? (i := 10) (by decide +kernel)) rfl
theorem gz_Jn : Cond.initialized "java/util/NoSuchElementException" ∈ gw_l := gw_in (List.mem_of_getElem? (i := 11) (by decide +kernel)) rfl
theorem gz_Js : Cond.initialized "java/lang/System" ∈ gw_l := gw_in (List.mem_of_getElem? (i := 12) (by decide +kernel)) rfl
theorem gz_Jm : Cond.initialized "java/lang/Math" ∈ gw_l := gw_in (List.mem_of_getElem? (i := 13) (by decide +kernel)) rfl
theorem gz_Ji : Cond.initialized "java/lang/IllegalStateException" ∈ gw_l := gw_in (List.mem_of_getElem? (i := 14) (by decide +kernel)) rfl
theorem gz_Jg : Cond.initialized "java/lang/IllegalArgumentException" ∈ gw_l := gw_in (List.mem_of_getElem? (i := 15) (by decide +kernel)) rfl
theorem gz_Jh : Cond.initialized "java/lang/ArithmeticException" ∈ gw_l := gw_in (List.mem_of_getElem? (i := 16) (by decide +kernel)) rfl
theorem gz_Jl : Cond.initialized "java/lang/Long" ∈ gw_l := gw_in (List.mem_of_getElem? (i := 17) (by decide +kernel)) rfl
theorem gz_Jx : Cond.initialized "java/lang/IndexOutOfBoundsException" ∈ gw_l := gw_in (List.mem_of_getElem? (i := 18) (by decide +kernel)) rfl
theorem gk_L8 : Cond.classLink "BindingBenchLaw" 8 "BindingBench" ∈ gw_l := gw_in (List.mem_of_getElem? (i := 19) (by decide +kernel)) rfl
theorem gn_B : Cond.instantiable "BindingBench" 3 ∈ gw_l := gw_in (List.mem_of_getElem? (i := 20) (by decide +kernel)) rfl
theorem gm_L68 : Cond.methodLink "BindingBenchLaw" 68 yB_init ∈ gw_l := gw_in (List.mem_of_getElem? (i := 21) (by decide +kernel)) rfl
theorem gi_B_init : Cond.instanceMethod yB_init ∈ gw_l := gw_in (List.mem_of_getElem? (i := 22) (by decide +kernel)) rfl
theorem gc_B_init : Cond.code yB_init cB_init 2 none ∈ gw_l := gw_in (List.mem_of_getElem? (i := 23) (by decide +kernel)) rfl
theorem gm_B1 : Cond.methodLink "BindingBench" 1 objectInit ∈ gw_l := gw_in (List.mem_of_getElem? (i := 24) (by decide +kernel)) rfl
theorem gi_O_init : Cond.instanceMethod objectInit ∈ gw_l := gw_in (List.mem_of_getElem? (i := 25) (by decide +kernel)) rfl
theorem gc_O_init : Cond.code objectInit object_method_1_code 1 none ∈ gw_l := gw_in (List.mem_of_getElem? (i := 26) (by decide +kernel)) rfl
theorem gk_B9 : Cond.classLink "BindingBench" 9 "BindingBench$Term" ∈ gw_l := gw_in (List.mem_of_getElem? (i := 27) (by decide +kernel)) rfl
theorem gn_T : Cond.instantiable "BindingBench$Term" 2 ∈ gw_l := gw_in (List.mem_of_getElem? (i := 29) (by decide +kernel)) rfl
theorem gm_B15 : Cond.methodLink "BindingBench" 15 yT_init ∈ gw_l := gw_in (List.mem_of_getElem? (i := 30) (by decide +kernel)) rfl
theorem gi_T_init : Cond.instanceMethod yT_init ∈ gw_l := gw_in (List.mem_of_getElem? (i := 31) (by decide +kernel)) rfl
theorem gc_T_init : Cond.code yT_init cT_init 2 none ∈ gw_l := gw_in (List.mem_of_getElem? (i := 32) (by decide +kernel)) rfl
theorem gm_T3 : Cond.methodLink "BindingBench$Term" 3 objectInit ∈ gw_l := gw_in (List.mem_of_getElem? (i := 33) (by decide +kernel)) rfl
theorem gf_T9 : Cond.fieldLink "BindingBench$Term" 9 "BindingBench$Term" "cells" "[I" ∈ gw_l := gw_in (List.mem_of_getElem? (i := 34) (by decide +kernel)) rfl
theorem gf_T15 : Cond.fieldLink "BindingBench$Term" 15 "BindingBench$Term" "size" "I" ∈ gw_l := gw_in (List.mem_of_getElem? (i := 37) (by decide +kernel)) rfl
theorem gl_T_cells : Cond.lays "BindingBench$Term" "BindingBench$Term" "cells" "[I" ∈ gw_l := gw_in (List.mem_of_getElem? (i := 41) (by decide +kernel)) rfl
theorem gl_T_size : Cond.lays "BindingBench$Term" "BindingBench$Term" "size" "I" ∈ gw_l := gw_in (List.mem_of_getElem? (i := 43) (by decide +kernel)) rfl
theorem ga_int : Cond.arrayClass .int ∈ gw_l := gw_in (List.mem_of_getElem? (i := 46) (by decide +kernel)) rfl
theorem gk_B18 : Cond.classLink "BindingBench" 18 "BindingBench$Workshop" ∈ gw_l := gw_in (List.mem_of_getElem? (i := 47) (by decide +kernel)) rfl
theorem gn_S : Cond.instantiable "BindingBench$Workshop" 5 ∈ gw_l := gw_in (List.mem_of_getElem? (i := 48) (by decide +kernel)) rfl
theorem gm_B20 : Cond.methodLink "BindingBench" 20 yS_init ∈ gw_l := gw_in (List.mem_of_getElem? (i := 49) (by decide +kernel)) rfl
theorem gi_S_init : Cond.instanceMethod yS_init ∈ gw_l := gw_in (List.mem_of_getElem? (i := 50) (by decide +kernel)) rfl
theorem gc_S_init : Cond.code yS_init cS_init 1 none ∈ gw_l := gw_in (List.mem_of_getElem? (i := 51) (by decide +kernel)) rfl
theorem gm_S3 : Cond.methodLink "BindingBench$Workshop" 3 objectInit ∈ gw_l := gw_in (List.mem_of_getElem? (i := 52) (by decide +kernel)) rfl
theorem gk_S9 : Cond.classLink "BindingBench$Workshop" 9 "BindingBench$Term" ∈ gw_l := gw_in (List.mem_of_getElem? (i := 53) (by decide +kernel)) rfl
theorem gm_S11 : Cond.methodLink "BindingBench$Workshop" 11 yT_init ∈ gw_l := gw_in (List.mem_of_getElem? (i := 54) (by decide +kernel)) rfl
theorem gk_S23 : Cond.classLink "BindingBench$Workshop" 23 "BindingBench$Walk" ∈ gw_l := gw_in (List.mem_of_getElem? (i := 55) (by decide +kernel)) rfl
theorem gn_W : Cond.instantiable "BindingBench$Walk" 5 ∈ gw_l := gw_in (List.mem_of_getElem? (i := 56) (by decide +kernel)) rfl
theorem gm_S25 : Cond.methodLink "BindingBench$Workshop" 25 yW_init ∈ gw_l := gw_in (List.mem_of_getElem? (i := 57) (by decide +kernel)) rfl
theorem gi_W_init : Cond.instanceMethod yW_init ∈ gw_l := gw_in (List.mem_of_getElem? (i := 58) (by decide +kernel)) rfl
theorem gc_W_init : Cond.code yW_init cW_init 3 none ∈ gw_l := gw_in (List.mem_of_getElem? (i := 59) (by decide +kernel)) rfl
theorem gm_W3 : Cond.methodLink "BindingBench$Walk" 3 objectInit ∈ gw_l := gw_in (List.mem_of_getElem? (i := 60) (by decide +kernel)) rfl
theorem gf_W9 : Cond.fieldLink "BindingBench$Walk" 9 "BindingBench$Walk" "forApplied" "I" ∈ gw_l := gw_in (List.mem_of_getElem? (i := 61) (by decide +kernel)) rfl
theorem gf_W15 : Cond.fieldLink "BindingBench$Walk" 15 "BindingBench$Walk" "forFunction" "I" ∈ gw_l := gw_in (List.mem_of_getElem? (i := 62) (by decide +kernel)) rfl
theorem gf_W18 : Cond.fieldLink "BindingBench$Walk" 18 "BindingBench$Walk" "waiting" "[I" ∈ gw_l := gw_in (List.mem_of_getElem? (i := 63) (by decide +kernel)) rfl
theorem gf_W22 : Cond.fieldLink "BindingBench$Walk" 22 "BindingBench$Walk" "height" "I" ∈ gw_l := gw_in (List.mem_of_getElem? (i := 64) (by decide +kernel)) rfl
theorem gf_W25 : Cond.fieldLink "BindingBench$Walk" 25 "BindingBench$Walk" "count" "I" ∈ gw_l := gw_in (List.mem_of_getElem? (i := 65) (by decide +kernel)) rfl
theorem gl_W_forApplied : Cond.laysFinal "BindingBench$Walk" "BindingBench$Walk" "forApplied" "I" ∈ gw_l := gw_in (List.mem_of_getElem? (i := 68) (by decide +kernel)) rfl
theorem gl_W_forFunction : Cond.laysFinal "BindingBench$Walk" "BindingBench$Walk" "forFunction" "I" ∈ gw_l := gw_in (List.mem_of_getElem? (i := 70) (by decide +kernel)) rfl
theorem gl_W_waiting : Cond.laysFinal "BindingBench$Walk" "BindingBench$Walk" "waiting" "[I" ∈ gw_l := gw_in (List.mem_of_getElem? (i := 72) (by decide +kernel)) rfl
theorem gl_W_height : Cond.lays "BindingBench$Walk" "BindingBench$Walk" "height" "I" ∈ gw_l := gw_in (List.mem_of_getElem? (i := 74) (by decide +kernel)) rfl
theorem gl_W_count : Cond.lays "BindingBench$Walk" "BindingBench$Walk" "count" "I" ∈ gw_l := gw_in (List.mem_of_getElem? (i := 76) (by decide +kernel)) rfl
theorem gf_S14 : Cond.fieldLink "BindingBench$Workshop" 14 "BindingBench$Workshop" "made" "LBindingBench$Term;" ∈ gw_l := gw_in (List.mem_of_getElem? (i := 79) (by decide +kernel)) rfl
theorem gf_S20 : Cond.fieldLink "BindingBench$Workshop" 20 "BindingBench$Workshop" "spare" "LBindingBench$Term;" ∈ gw_l := gw_in (List.mem_of_getElem? (i := 80) (by decide +kernel)) rfl
theorem gf_S28 : Cond.fieldLink "BindingBench$Workshop" 28 "BindingBench$Workshop" "levels" "LBindingBench$Walk;" ∈ gw_l := gw_in (List.mem_of_getElem? (i := 81) (by decide +kernel)) rfl
theorem gf_S32 : Cond.fieldLink "BindingBench$Workshop" 32 "BindingBench$Workshop" "binders" "LBindingBench$Walk;" ∈ gw_l := gw_in (List.mem_of_getElem? (i := 82) (by decide +kernel)) rfl
theorem gf_S35 : Cond.fieldLink "BindingBench$Workshop" 35 "BindingBench$Workshop" "innerBinders" "LBindingBench$Walk;" ∈ gw_l := gw_in (List.mem_of_getElem? (i := 83) (by decide +kernel)) rfl
theorem gl_S_made : Cond.lays "BindingBench$Workshop" "BindingBench$Workshop" "made" "LBindingBench$Term;" ∈ gw_l := gw_in (List.mem_of_getElem? (i := 84) (by decide +kernel)) rfl
theorem gl_S_spare : Cond.lays "BindingBench$Workshop" "BindingBench$Workshop" "spare" "LBindingBench$Term;" ∈ gw_l := gw_in (List.mem_of_getElem? (i := 86) (by decide +kernel)) rfl
theorem gl_S_levels : Cond.laysFinal "BindingBench$Workshop" "BindingBench$Workshop" "levels" "LBindingBench$Walk;" ∈ gw_l := gw_in (List.mem_of_getElem? (i := 88) (by decide +kernel)) rfl
theorem gl_S_binders : Cond.laysFinal "BindingBench$Workshop" "BindingBench$Workshop" "binders" "LBindingBench$Walk;" ∈ gw_l := gw_in (List.mem_of_getElem? (i := 90) (by decide +kernel)) rfl
theorem gl_S_innerBinders : Cond.laysFinal "BindingBench$Workshop" "BindingBench$Workshop" "innerBinders" "LBindingBench$Walk;" ∈ gw_l := gw_in (List.mem_of_getElem? (i := 92) (by decide +kernel)) rfl
theorem gk_B25 : Cond.classLink "BindingBench" 25 "BindingBench$Text" ∈ gw_l := gw_in (List.mem_of_getElem? (i := 95) (by decide +kernel)) rfl
theorem gn_X : Cond.instantiable "BindingBench$Text" 3 ∈ gw_l := gw_in (List.mem_of_getElem? (i := 96) (by decide +kernel)) rfl
theorem gm_B27 : Cond.methodLink "BindingBench" 27 yX_init ∈ gw_l := gw_in (List.mem_of_getElem? (i := 97) (by decide +kernel)) rfl
theorem gi_X_init : Cond.instanceMethod yX_init ∈ gw_l := gw_in (List.mem_of_getElem? (i := 98) (by decide +kernel)) rfl
theorem gc_X_init : Cond.code yX_init cX_init 1 none ∈ gw_l := gw_in (List.mem_of_getElem? (i := 99) (by decide +kernel)) rfl
theorem gm_X3 : Cond.methodLink "BindingBench$Text" 3 objectInit ∈ gw_l := gw_in (List.mem_of_getElem? (i := 100) (by decide +kernel)) rfl
theorem gk_X19 : Cond.classLink "BindingBench$Text" 19 "BindingBench$Walk" ∈ gw_l := gw_in (List.mem_of_getElem? (i := 101) (by decide +kernel)) rfl
theorem gm_X21 : Cond.methodLink "BindingBench$Text" 21 yW_init ∈ gw_l := gw_in (List.mem_of_getElem? (i := 102) (by decide +kernel)) rfl
theorem gf_X9 : Cond.fieldLink "BindingBench$Text" 9 "BindingBench$Text" "bytes" "[B" ∈ gw_l := gw_in (List.mem_of_getElem? (i := 103) (by decide +kernel)) rfl
theorem gf_X15 : Cond.fieldLink "BindingBench$Text" 15 "BindingBench$Text" "length" "I" ∈ gw_l := gw_in (List.mem_of_getElem? (i := 105) (by decide +kernel)) rfl
theorem gf_X24 : Cond.fieldLink "BindingBench$Text" 24 "BindingBench$Text" "brackets" "LBindingBench$Walk;" ∈ gw_l := gw_in (List.mem_of_getElem? (i := 107) (by decide +kernel)) rfl
theorem gl_X_bytes : Cond.lays "BindingBench$Text" "BindingBench$Text" "bytes" "[B" ∈ gw_l := gw_in (List.mem_of_getElem? (i := 108) (by decide +kernel)) rfl
theorem gl_X_length : Cond.lays "BindingBench$Text" "BindingBench$Text" "length" "I" ∈ gw_l := gw_in (List.mem_of_getElem? (i := 110) (by decide +kernel)) rfl
theorem gl_X_brackets : Cond.laysFinal "BindingBench$Text" "BindingBench$Text" "brackets" "LBindingBench$Walk;" ∈ gw_l := gw_in (List.mem_of_getElem? (i := 112) (by decide +kernel)) rfl
theorem ga_byte : Cond.arrayClass .byte ∈ gw_l := gw_in (List.mem_of_getElem? (i := 115) (by decide +kernel)) rfl
theorem gf_B11 : Cond.fieldLink "BindingBench" 11 "BindingBench" "registers" "[LBindingBench$Term;" ∈ gw_l := gw_in (List.mem_of_getElem? (i := 116) (by decide +kernel)) rfl
theorem gf_B21 : Cond.fieldLink "BindingBench" 21 "BindingBench" "workshop" "LBindingBench$Workshop;" ∈ gw_l := gw_in (List.mem_of_getElem? (i := 117) (by decide +kernel)) rfl
theorem gf_B28 : Cond.fieldLink "BindingBench" 28 "BindingBench" "text" "LBindingBench$Text;" ∈ gw_l := gw_in (List.mem_of_getElem? (i := 118) (by decide +kernel)) rfl
theorem gl_B_registers : Cond.laysFinal "BindingBench" "BindingBench" "registers" "[LBindingBench$Term;" ∈ gw_l := gw_in (List.mem_of_getElem? (i := 119) (by decide +kernel)) rfl
theorem gl_B_workshop : Cond.laysFinal "BindingBench" "BindingBench" "workshop" "LBindingBench$Workshop;" ∈ gw_l := gw_in (List.mem_of_getElem? (i := 121) (by decide +kernel)) rfl
theorem gl_B_text : Cond.laysFinal "BindingBench" "BindingBench" "text" "LBindingBench$Text;" ∈ gw_l := gw_in (List.mem_of_getElem? (i := 123) (by decide +kernel)) rfl
theorem gm_L72 : Cond.methodLink "BindingBenchLaw" 72 yL_free ∈ gw_l := gw_in (List.mem_of_getElem? (i := 126) (by decide +kernel)) rfl
theorem gt_L_free : Cond.static yL_free ∈ gw_l := gw_in (List.mem_of_getElem? (i := 127) (by decide +kernel)) rfl
theorem gc_L_free : Cond.codeWith yL_free cL_free 4 (some .int) [(0, 6, 9, 13)] ∈ gw_l := gw_in (List.mem_of_getElem? (i := 128) (by decide +kernel)) rfl
theorem gk_L13 : Cond.classLink "BindingBenchLaw" 13 "java/util/NoSuchElementException" ∈ gw_l := gw_in (List.mem_of_getElem? (i := 129) (by decide +kernel)) rfl
theorem gm_L7 : Cond.methodLink "BindingBenchLaw" 7 yB_free ∈ gw_l := gw_in (List.mem_of_getElem? (i := 130) (by decide +kernel)) rfl
theorem gi_B_free : Cond.instanceMethod yB_free ∈ gw_l := gw_in (List.mem_of_getElem? (i := 131) (by decide +kernel)) rfl
theorem gs_B_B_free : Cond.selects "BindingBench" yB_free yB_free ∈ gw_l := gw_in (List.mem_of_getElem? (i := 132) (by decide +kernel)) rfl
theorem gc_B_free : Cond.code yB_free cB_free 4 none ∈ gw_l := gw_in (List.mem_of_getElem? (i := 133) (by decide +kernel)) rfl
theorem gm_B32 : Cond.methodLink "BindingBench" 32 yB_register ∈ gw_l := gw_in (List.mem_of_getElem? (i := 134) (by decide +kernel)) rfl
theorem gi_B_register : Cond.instanceMethod yB_register ∈ gw_l := gw_in (List.mem_of_getElem? (i := 136) (by decide +kernel)) rfl
theorem gc_B_register : Cond.code yB_register cB_register 2 (some (.object "BindingBench$Term")) ∈ gw_l := gw_in (List.mem_of_getElem? (i := 137) (by decide +kernel)) rfl
theorem gk_B133 : Cond.classLink "BindingBench" 133 "java/util/NoSuchElementException" ∈ gw_l := gw_in (List.mem_of_getElem? (i := 138) (by decide +kernel)) rfl
theorem gn_Jn : Cond.instantiable "java/util/NoSuchElementException" 6 ∈ gw_l := gw_in (List.mem_of_getElem? (i := 139) (by decide +kernel)) rfl
theorem gs_Jn_Jt_fillInStackTrace : Cond.selects "java/util/NoSuchElementException" (⟨"java/lang/Throwable", "fillInStackTrace", "(I)Ljava/lang/Throwable;"⟩ : MethodName) (⟨"java/lang/Throwable", "fillInStackTrace", "(I)Ljava/lang/Throwable;"⟩ : MethodName) ∈ gw_l := gw_in (List.mem_of_getElem? (i := 147) (by decide +kernel)) rfl
theorem gs_Jn_Jt_fillInStackTrace_148 : Cond.selects "java/util/NoSuchElementException" (⟨"java/lang/Throwable", "fillInStackTrace", "()Ljava/lang/Throwable;"⟩ : MethodName) (⟨"java/lang/Throwable", "fillInStackTrace", "()Ljava/lang/Throwable;"⟩ : MethodName) ∈ gw_l := gw_in (List.mem_of_getElem? (i := 148) (by decide +kernel)) rfl
theorem gl_Jn_cause : Cond.lays "java/util/NoSuchElementException" "java/lang/Throwable" "cause" "Ljava/lang/Throwable;" ∈ gw_l := gw_in (List.mem_of_getElem? (i := 149) (by decide +kernel)) rfl
theorem gl_Jt_cause : Cond.lays "java/lang/Throwable" "java/lang/Throwable" "cause" "Ljava/lang/Throwable;" ∈ gw_l := gw_in (List.mem_of_getElem? (i := 150) (by decide +kernel)) rfl
theorem gl_Jn_stackTrace : Cond.lays "java/util/NoSuchElementException" "java/lang/Throwable" "stackTrace" "[Ljava/lang/StackTraceElement;" ∈ gw_l := gw_in (List.mem_of_getElem? (i := 151) (by decide +kernel)) rfl
theorem gl_Jt_stackTrace : Cond.lays "java/lang/Throwable" "java/lang/Throwable" "stackTrace" "[Ljava/lang/StackTraceElement;" ∈ gw_l := gw_in (List.mem_of_getElem? (i := 152) (by decide +kernel)) rfl
theorem gl_Jn_suppressedExceptions : Cond.lays "java/util/NoSuchElementException" "java/lang/Throwable" "suppressedExceptions" "Ljava/util/List;" ∈ gw_l := gw_in (List.mem_of_getElem? (i := 153) (by decide +kernel)) rfl
theorem gl_Jt_suppressedExceptions : Cond.lays "java/lang/Throwable" "java/lang/Throwable" "suppressedExceptions" "Ljava/util/List;" ∈ gw_l := gw_in (List.mem_of_getElem? (i := 154) (by decide +kernel)) rfl
theorem gl_Jn_detailMessage : Cond.lays "java/util/NoSuchElementException" "java/lang/Throwable" "detailMessage" "Ljava/lang/String;" ∈ gw_l := gw_in (List.mem_of_getElem? (i := 155) (by decide +kernel)) rfl
theorem gl_Jt_detailMessage : Cond.lays "java/lang/Throwable" "java/lang/Throwable" "detailMessage" "Ljava/lang/String;" ∈ gw_l := gw_in (List.mem_of_getElem? (i := 156) (by decide +kernel)) rfl
theorem gl_Jn_backtrace : Cond.lays "java/util/NoSuchElementException" "java/lang/Throwable" "backtrace" "Ljava/lang/Object;" ∈ gw_l := gw_in (List.mem_of_getElem? (i := 157) (by decide +kernel)) rfl
theorem gl_Jt_backtrace : Cond.lays "java/lang/Throwable" "java/lang/Throwable" "backtrace" "Ljava/lang/Object;" ∈ gw_l := gw_in (List.mem_of_getElem? (i := 158) (by decide +kernel)) rfl
theorem gf_Jt198 : Cond.fieldLink "java/lang/Throwable" 198 "java/lang/Throwable" "backtrace" "Ljava/lang/Object;" ∈ gw_l := gw_in (List.mem_of_getElem? (i := 159) (by decide +kernel)) rfl
theorem gi_Jt_init : Cond.instanceMethod (⟨"java/lang/Throwable", "<init>", "()V"⟩ : MethodName) ∈ gw_l := gw_in (List.mem_of_getElem? (i := 161) (by decide +kernel)) rfl
theorem gc_Jt_init : Cond.code (⟨"java/lang/Throwable", "<init>", "()V"⟩ : MethodName) prog_19_method_1_code 1 none ∈ gw_l := gw_in (List.mem_of_getElem? (i := 162) (by decide +kernel)) rfl
theorem gm_Jt1 : Cond.methodLink "java/lang/Throwable" 1 objectInit ∈ gw_l := gw_in (List.mem_of_getElem? (i := 163) (by decide +kernel)) rfl
theorem gf_Jt13 : Cond.fieldLink "java/lang/Throwable" 13 "java/lang/Throwable" "UNASSIGNED_STACK" "[Ljava/lang/StackTraceElement;" ∈ gw_l := gw_in (List.mem_of_getElem? (i := 164) (by decide +kernel)) rfl
theorem gf_Jt20 : Cond.fieldLink "java/lang/Throwable" 20 "java/lang/Throwable" "SUPPRESSED_SENTINEL" "Ljava/util/List;" ∈ gw_l := gw_in (List.mem_of_getElem? (i := 166) (by decide +kernel)) rfl
theorem gm_Jt27 : Cond.methodLink "java/lang/Throwable" 27 (⟨"java/lang/Throwable", "fillInStackTrace", "()Ljava/lang/Throwable;"⟩ : MethodName) ∈ gw_l := gw_in (List.mem_of_getElem? (i := 168) (by decide +kernel)) rfl
theorem gi_Jt_fillInStackTrace : Cond.instanceMethod (⟨"java/lang/Throwable", "fillInStackTrace", "()Ljava/lang/Throwable;"⟩ : MethodName) ∈ gw_l := gw_in (List.mem_of_getElem? (i := 169) (by decide +kernel)) rfl
theorem gs_Jh_Jt_fillInStackTrace : Cond.selects "java/lang/ArithmeticException" (⟨"java/lang/Throwable", "fillInStackTrace", "()Ljava/lang/Throwable;"⟩ : MethodName) (⟨"java/lang/Throwable", "fillInStackTrace", "()Ljava/lang/Throwable;"⟩ : MethodName) ∈ gw_l := gw_in (List.mem_of_getElem? (i := 171) (by decide +kernel)) rfl
theorem gs_Jg_Jt_fillInStackTrace : Cond.selects "java/lang/IllegalArgumentException" (⟨"java/lang/Throwable", "fillInStackTrace", "()Ljava/lang/Throwable;"⟩ : MethodName) (⟨"java/lang/Throwable", "fillInStackTrace", "()Ljava/lang/Throwable;"⟩ : MethodName) ∈ gw_l := gw_in (List.mem_of_getElem? (i := 172) (by decide +kernel)) rfl
theorem gs_Ji_Jt_fillInStackTrace : Cond.selects "java/lang/IllegalStateException" (⟨"java/lang/Throwable", "fillInStackTrace", "()Ljava/lang/Throwable;"⟩ : MethodName) (⟨"java/lang/Throwable", "fillInStackTrace", "()Ljava/lang/Throwable;"⟩ : MethodName) ∈ gw_l := gw_in (List.mem_of_getElem? (i := 173) (by decide +kernel)) rfl
theorem gs_Jx_Jt_fillInStackTrace : Cond.selects "java/lang/IndexOutOfBoundsException" (⟨"java/lang/Throwable", "fillInStackTrace", "()Ljava/lang/Throwable;"⟩ : MethodName) (⟨"java/lang/Throwable", "fillInStackTrace", "()Ljava/lang/Throwable;"⟩ : MethodName) ∈ gw_l := gw_in (List.mem_of_getElem? (i := 174) (by decide +kernel)) rfl
theorem gm_Jt202 : Cond.methodLink "java/lang/Throwable" 202 (⟨"java/lang/Throwable", "fillInStackTrace", "(I)Ljava/lang/Throwable;"⟩ : MethodName) ∈ gw_l := gw_in (List.mem_of_getElem? (i := 176) (by decide +kernel)) rfl
theorem gi_Jt_fillInStackTrace_178 : Cond.instanceMethod (⟨"java/lang/Throwable", "fillInStackTrace", "(I)Ljava/lang/Throwable;"⟩ : MethodName) ∈ gw_l := gw_in (List.mem_of_getElem? (i := 178) (by decide +kernel)) rfl
theorem gn_Jt : Cond.instantiable "java/lang/Throwable" 6 ∈ gw_l := gw_in (List.mem_of_getElem? (i := 179) (by decide +kernel)) rfl
theorem gv_Jt_fillInStackTrace : Cond.native (⟨"java/lang/Throwable", "fillInStackTrace", "(I)Ljava/lang/Throwable;"⟩ : MethodName) ∈ gw_l := gw_in (List.mem_of_getElem? (i := 180) (by decide +kernel)) rfl
theorem gm_B137 : Cond.methodLink "BindingBench" 137 (⟨"java/util/NoSuchElementException", "<init>", "(Ljava/lang/String;)V"⟩ : MethodName) ∈ gw_l := gw_in (List.mem_of_getElem? (i := 182) (by decide +kernel)) rfl
theorem gi_Jn_initS : Cond.instanceMethod (⟨"java/util/NoSuchElementException", "<init>", "(Ljava/lang/String;)V"⟩ : MethodName) ∈ gw_l := gw_in (List.mem_of_getElem? (i := 183) (by decide +kernel)) rfl
theorem gc_Jn_initS : Cond.code (⟨"java/util/NoSuchElementException", "<init>", "(Ljava/lang/String;)V"⟩ : MethodName) prog_21_method_4_code 2 none ∈ gw_l := gw_in (List.mem_of_getElem? (i := 184) (by decide +kernel)) rfl
theorem gm_Jn13 : Cond.methodLink "java/util/NoSuchElementException" 13 (⟨"java/lang/RuntimeException", "<init>", "(Ljava/lang/String;)V"⟩ : MethodName) ∈ gw_l := gw_in (List.mem_of_getElem? (i := 185) (by decide +kernel)) rfl
theorem gi_Jr_initS : Cond.instanceMethod (⟨"java/lang/RuntimeException", "<init>", "(Ljava/lang/String;)V"⟩ : MethodName) ∈ gw_l := gw_in (List.mem_of_getElem? (i := 186) (by decide +kernel)) rfl
theorem gc_Jr_initS : Cond.code (⟨"java/lang/RuntimeException", "<init>", "(Ljava/lang/String;)V"⟩ : MethodName) prog_16_method_2_code 2 none ∈ gw_l := gw_in (List.mem_of_getElem? (i := 187) (by decide +kernel)) rfl
theorem gm_Jr7 : Cond.methodLink "java/lang/RuntimeException" 7 (⟨"java/lang/Exception", "<init>", "(Ljava/lang/String;)V"⟩ : MethodName) ∈ gw_l := gw_in (List.mem_of_getElem? (i := 188) (by decide +kernel)) rfl
theorem gi_Je_initS : Cond.instanceMethod (⟨"java/lang/Exception", "<init>", "(Ljava/lang/String;)V"⟩ : MethodName) ∈ gw_l := gw_in (List.mem_of_getElem? (i := 189) (by decide +kernel)) rfl
theorem gc_Je_initS : Cond.code (⟨"java/lang/Exception", "<init>", "(Ljava/lang/String;)V"⟩ : MethodName) prog_10_method_2_code 2 none ∈ gw_l := gw_in (List.mem_of_getElem? (i := 190) (by decide +kernel)) rfl
theorem gm_Je7 : Cond.methodLink "java/lang/Exception" 7 (⟨"java/lang/Throwable", "<init>", "(Ljava/lang/String;)V"⟩ : MethodName) ∈ gw_l := gw_in (List.mem_of_getElem? (i := 191) (by decide +kernel)) rfl
theorem gi_Jt_initS : Cond.instanceMethod (⟨"java/lang/Throwable", "<init>", "(Ljava/lang/String;)V"⟩ : MethodName) ∈ gw_l := gw_in (List.mem_of_getElem? (i := 192) (by decide +kernel)) rfl
theorem gc_Jt_initS : Cond.code (⟨"java/lang/Throwable", "<init>", "(Ljava/lang/String;)V"⟩ : MethodName) prog_19_method_2_code 2 none ∈ gw_l := gw_in (List.mem_of_getElem? (i := 193) (by decide +kernel)) rfl
theorem gf_Jt198_194 : Cond.fieldLink "java/lang/Throwable" 198 "java/lang/Throwable" "backtrace" "Ljava/lang/Object;" ∈ gw_l := gw_in (List.mem_of_getElem? (i := 194) (by decide +kernel)) rfl
theorem gf_Jt31 : Cond.fieldLink "java/lang/Throwable" 31 "java/lang/Throwable" "detailMessage" "Ljava/lang/String;" ∈ gw_l := gw_in (List.mem_of_getElem? (i := 195) (by decide +kernel)) rfl
theorem gf_Jt7 : Cond.fieldLink "java/lang/Throwable" 7 "java/lang/Throwable" "cause" "Ljava/lang/Throwable;" ∈ gw_l := gw_in (List.mem_of_getElem? (i := 196) (by decide +kernel)) rfl
theorem gf_Jt17 : Cond.fieldLink "java/lang/Throwable" 17 "java/lang/Throwable" "stackTrace" "[Ljava/lang/StackTraceElement;" ∈ gw_l := gw_in (List.mem_of_getElem? (i := 197) (by decide +kernel)) rfl
theorem gf_Jt24 : Cond.fieldLink "java/lang/Throwable" 24 "java/lang/Throwable" "suppressedExceptions" "Ljava/util/List;" ∈ gw_l := gw_in (List.mem_of_getElem? (i := 198) (by decide +kernel)) rfl
theorem gl_Jn_depth : Cond.lays "java/util/NoSuchElementException" "java/lang/Throwable" "depth" "I" ∈ gw_l := gw_in (List.mem_of_getElem? (i := 203) (by decide +kernel)) rfl
theorem gm_B36 : Cond.methodLink "BindingBench" 36 yB_checkFree ∈ gw_l := gw_in (List.mem_of_getElem? (i := 207) (by decide +kernel)) rfl
theorem gt_B_checkFree : Cond.static yB_checkFree ∈ gw_l := gw_in (List.mem_of_getElem? (i := 208) (by decide +kernel)) rfl
theorem gc_B_checkFree : Cond.code yB_checkFree cB_checkFree 1 none ∈ gw_l := gw_in (List.mem_of_getElem? (i := 209) (by decide +kernel)) rfl
theorem gm_B39 : Cond.methodLink "BindingBench" 39 yT_becomeFree ∈ gw_l := gw_in (List.mem_of_getElem? (i := 211) (by decide +kernel)) rfl
theorem gi_T_becomeFree : Cond.instanceMethod yT_becomeFree ∈ gw_l := gw_in (List.mem_of_getElem? (i := 212) (by decide +kernel)) rfl
theorem gs_T_T_becomeFree : Cond.selects "BindingBench$Term" yT_becomeFree yT_becomeFree ∈ gw_l := gw_in (List.mem_of_getElem? (i := 213) (by decide +kernel)) rfl
theorem gc_T_becomeFree : Cond.code yT_becomeFree cT_becomeFree 2 none ∈ gw_l := gw_in (List.mem_of_getElem? (i := 214) (by decide +kernel)) rfl
theorem gm_L82 : Cond.methodLink "BindingBenchLaw" 82 yL_apply ∈ gw_l := gw_in (List.mem_of_getElem? (i := 215) (by decide +kernel)) rfl
theorem gt_L_apply : Cond.static yL_apply ∈ gw_l := gw_in (List.mem_of_getElem? (i := 216) (by decide +kernel)) rfl
theorem gc_L_apply : Cond.codeWith yL_apply cL_apply 6 (some .int) [(0, 12, 15, 13), (0, 12, 19, 19)] ∈ gw_l := gw_in (List.mem_of_getElem? (i := 217) (by decide +kernel)) rfl
theorem gk_L19 : Cond.classLink "BindingBenchLaw" 19 "java/lang/IllegalStateException" ∈ gw_l := gw_in (List.mem_of_getElem? (i := 218) (by decide +kernel)) rfl
theorem gm_L15 : Cond.methodLink "BindingBenchLaw" 15 yB_apply ∈ gw_l := gw_in (List.mem_of_getElem? (i := 219) (by decide +kernel)) rfl
theorem gi_B_apply : Cond.instanceMethod yB_apply ∈ gw_l := gw_in (List.mem_of_getElem? (i := 220) (by decide +kernel)) rfl
theorem gs_B_B_apply : Cond.selects "BindingBench" yB_apply yB_apply ∈ gw_l := gw_in (List.mem_of_getElem? (i := 221) (by decide +kernel)) rfl
theorem gc_B_apply : Cond.code yB_apply cB_apply 5 (some .int) ∈ gw_l := gw_in (List.mem_of_getElem? (i := 222) (by decide +kernel)) rfl
theorem gm_B42 : Cond.methodLink "BindingBench" 42 yS_join ∈ gw_l := gw_in (List.mem_of_getElem? (i := 223) (by decide +kernel)) rfl
theorem gi_S_join : Cond.instanceMethod yS_join ∈ gw_l := gw_in (List.mem_of_getElem? (i := 224) (by decide +kernel)) rfl
theorem gs_S_S_join : Cond.selects "BindingBench$Workshop" yS_join yS_join ∈ gw_l := gw_in (List.mem_of_getElem? (i := 225) (by decide +kernel)) rfl
theorem gc_S_join : Cond.code yS_join cS_join 3 (some (.object "BindingBench$Term")) ∈ gw_l := gw_in (List.mem_of_getElem? (i := 226) (by decide +kernel)) rfl
theorem gm_S38 : Cond.methodLink "BindingBench$Workshop" 38 yT_clear ∈ gw_l := gw_in (List.mem_of_getElem? (i := 227) (by decide +kernel)) rfl
theorem gi_T_clear : Cond.instanceMethod yT_clear ∈ gw_l := gw_in (List.mem_of_getElem? (i := 228) (by decide +kernel)) rfl
theorem gs_T_T_clear : Cond.selects "BindingBench$Term" yT_clear yT_clear ∈ gw_l := gw_in (List.mem_of_getElem? (i := 229) (by decide +kernel)) rfl
theorem gc_T_clear : Cond.code yT_clear cT_clear 1 none ∈ gw_l := gw_in (List.mem_of_getElem? (i := 230) (by decide +kernel)) rfl
theorem gm_S41 : Cond.methodLink "BindingBench$Workshop" 41 yT_add ∈ gw_l := gw_in (List.mem_of_getElem? (i := 231) (by decide +kernel)) rfl
theorem gi_T_add : Cond.instanceMethod yT_add ∈ gw_l := gw_in (List.mem_of_getElem? (i := 232) (by decide +kernel)) rfl
theorem gs_T_T_add : Cond.selects "BindingBench$Term" yT_add yT_add ∈ gw_l := gw_in (List.mem_of_getElem? (i := 233) (by decide +kernel)) rfl
theorem gc_T_add : Cond.code yT_add cT_add 2 none ∈ gw_l := gw_in (List.mem_of_getElem? (i := 234) (by decide +kernel)) rfl
theorem gm_S48 : Cond.methodLink "BindingBench$Workshop" 48 yT_addAll ∈ gw_l := gw_in (List.mem_of_getElem? (i := 235) (by decide +kernel)) rfl
theorem gi_T_addAll : Cond.instanceMethod yT_addAll ∈ gw_l := gw_in (List.mem_of_getElem? (i := 236) (by decide +kernel)) rfl
theorem gs_T_T_addAll : Cond.selects "BindingBench$Term" yT_addAll yT_addAll ∈ gw_l := gw_in (List.mem_of_getElem? (i := 237) (by decide +kernel)) rfl
theorem gc_T_addAll : Cond.code yT_addAll cT_addAll 4 none ∈ gw_l := gw_in (List.mem_of_getElem? (i := 238) (by decide +kernel)) rfl
theorem gm_T38 : Cond.methodLink "BindingBench$Term" 38 yT_takes ∈ gw_l := gw_in (List.mem_of_getElem? (i := 239) (by decide +kernel)) rfl
theorem gi_T_takes : Cond.instanceMethod yT_takes ∈ gw_l := gw_in (List.mem_of_getElem? (i := 240) (by decide +kernel)) rfl
theorem gs_T_T_takes : Cond.selects "BindingBench$Term" yT_takes yT_takes ∈ gw_l := gw_in (List.mem_of_getElem? (i := 241) (by decide +kernel)) rfl
theorem gc_T_takes : Cond.code yT_takes cT_takes 2 (some .boolean) ∈ gw_l := gw_in (List.mem_of_getElem? (i := 242) (by decide +kernel)) rfl
theorem gm_T23 : Cond.methodLink "BindingBench$Term" 23 arraycopyName ∈ gw_l := gw_in (List.mem_of_getElem? (i := 243) (by decide +kernel)) rfl
theorem gt_Js_arraycopy : Cond.static arraycopyName ∈ gw_l := gw_in (List.mem_of_getElem? (i := 244) (by decide +kernel)) rfl
theorem gv_Js_arraycopy : Cond.native arraycopyName ∈ gw_l := gw_in (List.mem_of_getElem? (i := 245) (by decide +kernel)) rfl
theorem gm_S52 : Cond.methodLink "BindingBench$Workshop" 52 yS_checked ∈ gw_l := gw_in (List.mem_of_getElem? (i := 246) (by decide +kernel)) rfl
theorem gi_S_checked : Cond.instanceMethod yS_checked ∈ gw_l := gw_in (List.mem_of_getElem? (i := 248) (by decide +kernel)) rfl
theorem gc_S_checked : Cond.code yS_checked cS_checked 1 (some (.object "BindingBench$Term")) ∈ gw_l := gw_in (List.mem_of_getElem? (i := 249) (by decide +kernel)) rfl
theorem gm_S113 : Cond.methodLink "BindingBench$Workshop" 113 yS_isTooDeep ∈ gw_l := gw_in (List.mem_of_getElem? (i := 250) (by decide +kernel)) rfl
theorem gi_S_isTooDeep : Cond.instanceMethod yS_isTooDeep ∈ gw_l := gw_in (List.mem_of_getElem? (i := 252) (by decide +kernel)) rfl
theorem gc_S_isTooDeep : Cond.code yS_isTooDeep cS_isTooDeep 2 (some .boolean) ∈ gw_l := gw_in (List.mem_of_getElem? (i := 253) (by decide +kernel)) rfl
theorem gm_S122 : Cond.methodLink "BindingBench$Workshop" 122 yS_depth ∈ gw_l := gw_in (List.mem_of_getElem? (i := 254) (by decide +kernel)) rfl
theorem gi_S_depth : Cond.instanceMethod yS_depth ∈ gw_l := gw_in (List.mem_of_getElem? (i := 255) (by decide +kernel)) rfl
theorem gs_S_S_depth : Cond.selects "BindingBench$Workshop" yS_depth yS_depth ∈ gw_l := gw_in (List.mem_of_getElem? (i := 256) (by decide +kernel)) rfl
theorem gc_S_depth : Cond.code yS_depth cS_depth 4 (some .int) ∈ gw_l := gw_in (List.mem_of_getElem? (i := 257) (by decide +kernel)) rfl
theorem gm_S56 : Cond.methodLink "BindingBench$Workshop" 56 yW_start ∈ gw_l := gw_in (List.mem_of_getElem? (i := 258) (by decide +kernel)) rfl
theorem gi_W_start : Cond.instanceMethod yW_start ∈ gw_l := gw_in (List.mem_of_getElem? (i := 259) (by decide +kernel)) rfl
theorem gs_W_W_start : Cond.selects "BindingBench$Walk" yW_start yW_start ∈ gw_l := gw_in (List.mem_of_getElem? (i := 260) (by decide +kernel)) rfl
theorem gc_W_start : Cond.code yW_start cW_start 1 none ∈ gw_l := gw_in (List.mem_of_getElem? (i := 261) (by decide +kernel)) rfl
theorem gm_S92 : Cond.methodLink "BindingBench$Workshop" 92 (⟨"java/lang/Math", "max", "(II)I"⟩ : MethodName) ∈ gw_l := gw_in (List.mem_of_getElem? (i := 262) (by decide +kernel)) rfl
theorem gt_Jm_max : Cond.static (⟨"java/lang/Math", "max", "(II)I"⟩ : MethodName) ∈ gw_l := gw_in (List.mem_of_getElem? (i := 263) (by decide +kernel)) rfl
theorem gc_Jm_max : Cond.code (⟨"java/lang/Math", "max", "(II)I"⟩ : MethodName) prog_15_method_65_code 2 (some .int) ∈ gw_l := gw_in (List.mem_of_getElem? (i := 264) (by decide +kernel)) rfl
theorem gm_S66 : Cond.methodLink "BindingBench$Workshop" 66 yW_pass ∈ gw_l := gw_in (List.mem_of_getElem? (i := 265) (by decide +kernel)) rfl
theorem gi_W_pass : Cond.instanceMethod yW_pass ∈ gw_l := gw_in (List.mem_of_getElem? (i := 266) (by decide +kernel)) rfl
theorem gs_W_W_pass : Cond.selects "BindingBench$Walk" yW_pass yW_pass ∈ gw_l := gw_in (List.mem_of_getElem? (i := 267) (by decide +kernel)) rfl
theorem gc_W_pass : Cond.code yW_pass cW_pass 2 none ∈ gw_l := gw_in (List.mem_of_getElem? (i := 268) (by decide +kernel)) rfl
theorem gk_S117 : Cond.classLink "BindingBench$Workshop" 117 "java/lang/IllegalStateException" ∈ gw_l := gw_in (List.mem_of_getElem? (i := 269) (by decide +kernel)) rfl
theorem gn_Ji : Cond.instantiable "java/lang/IllegalStateException" 6 ∈ gw_l := gw_in (List.mem_of_getElem? (i := 270) (by decide +kernel)) rfl
theorem gs_Ji_Jt_fillInStackTrace_272 : Cond.selects "java/lang/IllegalStateException" (⟨"java/lang/Throwable", "fillInStackTrace", "(I)Ljava/lang/Throwable;"⟩ : MethodName) (⟨"java/lang/Throwable", "fillInStackTrace", "(I)Ljava/lang/Throwable;"⟩ : MethodName) ∈ gw_l := gw_in (List.mem_of_getElem? (i := 272) (by decide +kernel)) rfl
theorem gl_Ji_cause : Cond.lays "java/lang/IllegalStateException" "java/lang/Throwable" "cause" "Ljava/lang/Throwable;" ∈ gw_l := gw_in (List.mem_of_getElem? (i := 273) (by decide +kernel)) rfl
theorem gl_Ji_stackTrace : Cond.lays "java/lang/IllegalStateException" "java/lang/Throwable" "stackTrace" "[Ljava/lang/StackTraceElement;" ∈ gw_l := gw_in (List.mem_of_getElem? (i := 274) (by decide +kernel)) rfl
theorem gl_Ji_suppressedExceptions : Cond.lays "java/lang/IllegalStateException" "java/lang/Throwable" "suppressedExceptions" "Ljava/util/List;" ∈ gw_l := gw_in (List.mem_of_getElem? (i := 275) (by decide +kernel)) rfl
theorem gl_Ji_detailMessage : Cond.lays "java/lang/IllegalStateException" "java/lang/Throwable" "detailMessage" "Ljava/lang/String;" ∈ gw_l := gw_in (List.mem_of_getElem? (i := 276) (by decide +kernel)) rfl
theorem gl_Ji_backtrace : Cond.lays "java/lang/IllegalStateException" "java/lang/Throwable" "backtrace" "Ljava/lang/Object;" ∈ gw_l := gw_in (List.mem_of_getElem? (i := 277) (by decide +kernel)) rfl
theorem gm_S121 : Cond.methodLink "BindingBench$Workshop" 121 (⟨"java/lang/IllegalStateException", "<init>", "(Ljava/lang/String;)V"⟩ : MethodName) ∈ gw_l := gw_in (List.mem_of_getElem? (i := 279) (by decide +kernel)) rfl
theorem gi_Ji_initS : Cond.instanceMethod (⟨"java/lang/IllegalStateException", "<init>", "(Ljava/lang/String;)V"⟩ : MethodName) ∈ gw_l := gw_in (List.mem_of_getElem? (i := 280) (by decide +kernel)) rfl
theorem gc_Ji_initS : Cond.code (⟨"java/lang/IllegalStateException", "<init>", "(Ljava/lang/String;)V"⟩ : MethodName) prog_12_method_2_code 2 none ∈ gw_l := gw_in (List.mem_of_getElem? (i := 281) (by decide +kernel)) rfl
theorem gm_Ji7 : Cond.methodLink "java/lang/IllegalStateException" 7 (⟨"java/lang/RuntimeException", "<init>", "(Ljava/lang/String;)V"⟩ : MethodName) ∈ gw_l := gw_in (List.mem_of_getElem? (i := 282) (by decide +kernel)) rfl
theorem gl_Ji_depth : Cond.lays "java/lang/IllegalStateException" "java/lang/Throwable" "depth" "I" ∈ gw_l := gw_in (List.mem_of_getElem? (i := 283) (by decide +kernel)) rfl
theorem gm_B46 : Cond.methodLink "BindingBench" 46 yT_become ∈ gw_l := gw_in (List.mem_of_getElem? (i := 285) (by decide +kernel)) rfl
theorem gi_T_become : Cond.instanceMethod yT_become ∈ gw_l := gw_in (List.mem_of_getElem? (i := 286) (by decide +kernel)) rfl
theorem gs_T_T_become : Cond.selects "BindingBench$Term" yT_become yT_become ∈ gw_l := gw_in (List.mem_of_getElem? (i := 287) (by decide +kernel)) rfl
theorem gc_T_become : Cond.code yT_become cT_become 2 (some .int) ∈ gw_l := gw_in (List.mem_of_getElem? (i := 288) (by decide +kernel)) rfl
theorem gm_T19 : Cond.methodLink "BindingBench$Term" 19 yT_reserve ∈ gw_l := gw_in (List.mem_of_getElem? (i := 289) (by decide +kernel)) rfl
theorem gi_T_reserve : Cond.instanceMethod yT_reserve ∈ gw_l := gw_in (List.mem_of_getElem? (i := 291) (by decide +kernel)) rfl
theorem gc_T_reserve : Cond.code yT_reserve cT_reserve 2 none ∈ gw_l := gw_in (List.mem_of_getElem? (i := 292) (by decide +kernel)) rfl
theorem gm_T29 : Cond.methodLink "BindingBench$Term" 29 (⟨"java/lang/Math", "max", "(II)I"⟩ : MethodName) ∈ gw_l := gw_in (List.mem_of_getElem? (i := 293) (by decide +kernel)) rfl
theorem gm_T35 : Cond.methodLink "BindingBench$Term" 35 (⟨"java/lang/Math", "min", "(II)I"⟩ : MethodName) ∈ gw_l := gw_in (List.mem_of_getElem? (i := 294) (by decide +kernel)) rfl
theorem gt_Jm_min : Cond.static (⟨"java/lang/Math", "min", "(II)I"⟩ : MethodName) ∈ gw_l := gw_in (List.mem_of_getElem? (i := 295) (by decide +kernel)) rfl
theorem gc_Jm_min : Cond.code (⟨"java/lang/Math", "min", "(II)I"⟩ : MethodName) prog_15_method_69_code 2 (some .int) ∈ gw_l := gw_in (List.mem_of_getElem? (i := 296) (by decide +kernel)) rfl
theorem gm_L86 : Cond.methodLink "BindingBenchLaw" 86 yL_bind ∈ gw_l := gw_in (List.mem_of_getElem? (i := 297) (by decide +kernel)) rfl
theorem gt_L_bind : Cond.static yL_bind ∈ gw_l := gw_in (List.mem_of_getElem? (i := 298) (by decide +kernel)) rfl
theorem gc_L_bind : Cond.codeWith yL_bind cL_bind 6 (some .int) [(0, 12, 15, 13), (0, 12, 19, 19)] ∈ gw_l := gw_in (List.mem_of_getElem? (i := 299) (by decide +kernel)) rfl
theorem gm_L21 : Cond.methodLink "BindingBenchLaw" 21 yB_bind ∈ gw_l := gw_in (List.mem_of_getElem? (i := 300) (by decide +kernel)) rfl
theorem gi_B_bind : Cond.instanceMethod yB_bind ∈ gw_l := gw_in (List.mem_of_getElem? (i := 301) (by decide +kernel)) rfl
theorem gs_B_B_bind : Cond.selects "BindingBench" yB_bind yB_bind ∈ gw_l := gw_in (List.mem_of_getElem? (i := 302) (by decide +kernel)) rfl
theorem gc_B_bind : Cond.code yB_bind cB_bind 6 (some .int) ∈ gw_l := gw_in (List.mem_of_getElem? (i := 303) (by decide +kernel)) rfl
theorem gm_B50 : Cond.methodLink "BindingBench" 50 yS_close ∈ gw_l := gw_in (List.mem_of_getElem? (i := 304) (by decide +kernel)) rfl
theorem gi_S_close : Cond.instanceMethod yS_close ∈ gw_l := gw_in (List.mem_of_getElem? (i := 305) (by decide +kernel)) rfl
theorem gs_S_S_close : Cond.selects "BindingBench$Workshop" yS_close yS_close ∈ gw_l := gw_in (List.mem_of_getElem? (i := 306) (by decide +kernel)) rfl
theorem gc_S_close : Cond.code yS_close cS_close 5 (some (.object "BindingBench$Term")) ∈ gw_l := gw_in (List.mem_of_getElem? (i := 307) (by decide +kernel)) rfl
theorem gm_L89 : Cond.methodLink "BindingBenchLaw" 89 yL_put ∈ gw_l := gw_in (List.mem_of_getElem? (i := 308) (by decide +kernel)) rfl
theorem gt_L_put : Cond.static yL_put ∈ gw_l := gw_in (List.mem_of_getElem? (i := 309) (by decide +kernel)) rfl
theorem gc_L_put : Cond.codeWith yL_put cL_put 7 (some .int) [(0, 14, 17, 13), (0, 14, 21, 19)] ∈ gw_l := gw_in (List.mem_of_getElem? (i := 310) (by decide +kernel)) rfl
theorem gm_L24 : Cond.methodLink "BindingBenchLaw" 24 yB_put ∈ gw_l := gw_in (List.mem_of_getElem? (i := 311) (by decide +kernel)) rfl
theorem gi_B_put : Cond.instanceMethod yB_put ∈ gw_l := gw_in (List.mem_of_getElem? (i := 312) (by decide +kernel)) rfl
theorem gs_B_B_put : Cond.selects "BindingBench" yB_put yB_put ∈ gw_l := gw_in (List.mem_of_getElem? (i := 313) (by decide +kernel)) rfl
theorem gc_B_put : Cond.code yB_put cB_put 7 (some .int) ∈ gw_l := gw_in (List.mem_of_getElem? (i := 314) (by decide +kernel)) rfl
theorem gm_B54 : Cond.methodLink "BindingBench" 54 yS_replace ∈ gw_l := gw_in (List.mem_of_getElem? (i := 315) (by decide +kernel)) rfl
theorem gi_S_replace : Cond.instanceMethod yS_replace ∈ gw_l := gw_in (List.mem_of_getElem? (i := 316) (by decide +kernel)) rfl
theorem gs_S_S_replace : Cond.selects "BindingBench$Workshop" yS_replace yS_replace ∈ gw_l := gw_in (List.mem_of_getElem? (i := 317) (by decide +kernel)) rfl
theorem gc_S_replace : Cond.code yS_replace cS_replace 5 (some (.object "BindingBench$Term")) ∈ gw_l := gw_in (List.mem_of_getElem? (i := 318) (by decide +kernel)) rfl
theorem gm_L93 : Cond.methodLink "BindingBenchLaw" 93 yL_open ∈ gw_l := gw_in (List.mem_of_getElem? (i := 319) (by decide +kernel)) rfl
theorem gt_L_open : Cond.static yL_open ∈ gw_l := gw_in (List.mem_of_getElem? (i := 320) (by decide +kernel)) rfl
theorem gc_L_open : Cond.codeWith yL_open cL_open 6 (some .int) [(0, 12, 15, 13), (0, 12, 19, 31), (0, 12, 23, 19)] ∈ gw_l := gw_in (List.mem_of_getElem? (i := 321) (by decide +kernel)) rfl
theorem gk_L31 : Cond.classLink "BindingBenchLaw" 31 "java/lang/IllegalArgumentException" ∈ gw_l := gw_in (List.mem_of_getElem? (i := 322) (by decide +kernel)) rfl
theorem gm_L28 : Cond.methodLink "BindingBenchLaw" 28 yB_open ∈ gw_l := gw_in (List.mem_of_getElem? (i := 323) (by decide +kernel)) rfl
theorem gi_B_open : Cond.instanceMethod yB_open ∈ gw_l := gw_in (List.mem_of_getElem? (i := 324) (by decide +kernel)) rfl
theorem gs_B_B_open : Cond.selects "BindingBench" yB_open yB_open ∈ gw_l := gw_in (List.mem_of_getElem? (i := 325) (by decide +kernel)) rfl
theorem gc_B_open : Cond.code yB_open cB_open 7 (some .int) ∈ gw_l := gw_in (List.mem_of_getElem? (i := 326) (by decide +kernel)) rfl
theorem gm_B58 : Cond.methodLink "BindingBench" 58 yT_first ∈ gw_l := gw_in (List.mem_of_getElem? (i := 327) (by decide +kernel)) rfl
theorem gi_T_first : Cond.instanceMethod yT_first ∈ gw_l := gw_in (List.mem_of_getElem? (i := 328) (by decide +kernel)) rfl
theorem gs_T_T_first : Cond.selects "BindingBench$Term" yT_first yT_first ∈ gw_l := gw_in (List.mem_of_getElem? (i := 329) (by decide +kernel)) rfl
theorem gc_T_first : Cond.code yT_first cT_first 1 (some .int) ∈ gw_l := gw_in (List.mem_of_getElem? (i := 330) (by decide +kernel)) rfl
theorem gk_B62 : Cond.classLink "BindingBench" 62 "java/lang/IllegalArgumentException" ∈ gw_l := gw_in (List.mem_of_getElem? (i := 331) (by decide +kernel)) rfl
theorem gn_Jg : Cond.instantiable "java/lang/IllegalArgumentException" 6 ∈ gw_l := gw_in (List.mem_of_getElem? (i := 332) (by decide +kernel)) rfl
theorem gs_Jg_Jt_fillInStackTrace_334 : Cond.selects "java/lang/IllegalArgumentException" (⟨"java/lang/Throwable", "fillInStackTrace", "(I)Ljava/lang/Throwable;"⟩ : MethodName) (⟨"java/lang/Throwable", "fillInStackTrace", "(I)Ljava/lang/Throwable;"⟩ : MethodName) ∈ gw_l := gw_in (List.mem_of_getElem? (i := 334) (by decide +kernel)) rfl
theorem gl_Jg_cause : Cond.lays "java/lang/IllegalArgumentException" "java/lang/Throwable" "cause" "Ljava/lang/Throwable;" ∈ gw_l := gw_in (List.mem_of_getElem? (i := 335) (by decide +kernel)) rfl
theorem gl_Jg_stackTrace : Cond.lays "java/lang/IllegalArgumentException" "java/lang/Throwable" "stackTrace" "[Ljava/lang/StackTraceElement;" ∈ gw_l := gw_in (List.mem_of_getElem? (i := 336) (by decide +kernel)) rfl
theorem gl_Jg_suppressedExceptions : Cond.lays "java/lang/IllegalArgumentException" "java/lang/Throwable" "suppressedExceptions" "Ljava/util/List;" ∈ gw_l := gw_in (List.mem_of_getElem? (i := 337) (by decide +kernel)) rfl
theorem gl_Jg_detailMessage : Cond.lays "java/lang/IllegalArgumentException" "java/lang/Throwable" "detailMessage" "Ljava/lang/String;" ∈ gw_l := gw_in (List.mem_of_getElem? (i := 338) (by decide +kernel)) rfl
theorem gl_Jg_backtrace : Cond.lays "java/lang/IllegalArgumentException" "java/lang/Throwable" "backtrace" "Ljava/lang/Object;" ∈ gw_l := gw_in (List.mem_of_getElem? (i := 339) (by decide +kernel)) rfl
theorem gm_B66 : Cond.methodLink "BindingBench" 66 (⟨"java/lang/IllegalArgumentException", "<init>", "(Ljava/lang/String;)V"⟩ : MethodName) ∈ gw_l := gw_in (List.mem_of_getElem? (i := 341) (by decide +kernel)) rfl
theorem gi_Jg_initS : Cond.instanceMethod (⟨"java/lang/IllegalArgumentException", "<init>", "(Ljava/lang/String;)V"⟩ : MethodName) ∈ gw_l := gw_in (List.mem_of_getElem? (i := 342) (by decide +kernel)) rfl
theorem gc_Jg_initS : Cond.code (⟨"java/lang/IllegalArgumentException", "<init>", "(Ljava/lang/String;)V"⟩ : MethodName) prog_11_method_2_code 2 none ∈ gw_l := gw_in (List.mem_of_getElem? (i := 343) (by decide +kernel)) rfl
theorem gm_Jg7 : Cond.methodLink "java/lang/IllegalArgumentException" 7 (⟨"java/lang/RuntimeException", "<init>", "(Ljava/lang/String;)V"⟩ : MethodName) ∈ gw_l := gw_in (List.mem_of_getElem? (i := 344) (by decide +kernel)) rfl
theorem gl_Jg_depth : Cond.lays "java/lang/IllegalArgumentException" "java/lang/Throwable" "depth" "I" ∈ gw_l := gw_in (List.mem_of_getElem? (i := 345) (by decide +kernel)) rfl
theorem gm_B69 : Cond.methodLink "BindingBench" 69 yS_fill ∈ gw_l := gw_in (List.mem_of_getElem? (i := 347) (by decide +kernel)) rfl
theorem gi_S_fill : Cond.instanceMethod yS_fill ∈ gw_l := gw_in (List.mem_of_getElem? (i := 348) (by decide +kernel)) rfl
theorem gs_S_S_fill : Cond.selects "BindingBench$Workshop" yS_fill yS_fill ∈ gw_l := gw_in (List.mem_of_getElem? (i := 349) (by decide +kernel)) rfl
theorem gc_S_fill : Cond.code yS_fill cS_fill 3 (some (.object "BindingBench$Term")) ∈ gw_l := gw_in (List.mem_of_getElem? (i := 350) (by decide +kernel)) rfl
theorem gm_S69 : Cond.methodLink "BindingBench$Workshop" 69 yS_addFilled ∈ gw_l := gw_in (List.mem_of_getElem? (i := 351) (by decide +kernel)) rfl
theorem gi_S_addFilled : Cond.instanceMethod yS_addFilled ∈ gw_l := gw_in (List.mem_of_getElem? (i := 353) (by decide +kernel)) rfl
theorem gc_S_addFilled : Cond.code yS_addFilled cS_addFilled 10 none ∈ gw_l := gw_in (List.mem_of_getElem? (i := 354) (by decide +kernel)) rfl
theorem gm_S105 : Cond.methodLink "BindingBench$Workshop" 105 yS_addRaised ∈ gw_l := gw_in (List.mem_of_getElem? (i := 355) (by decide +kernel)) rfl
theorem gi_S_addRaised : Cond.instanceMethod yS_addRaised ∈ gw_l := gw_in (List.mem_of_getElem? (i := 357) (by decide +kernel)) rfl
theorem gc_S_addRaised : Cond.code yS_addRaised cS_addRaised 7 none ∈ gw_l := gw_in (List.mem_of_getElem? (i := 358) (by decide +kernel)) rfl
theorem gm_S109 : Cond.methodLink "BindingBench$Workshop" 109 yT_takes ∈ gw_l := gw_in (List.mem_of_getElem? (i := 359) (by decide +kernel)) rfl
theorem gm_L96 : Cond.methodLink "BindingBenchLaw" 96 yL_part ∈ gw_l := gw_in (List.mem_of_getElem? (i := 360) (by decide +kernel)) rfl
theorem gt_L_part : Cond.static yL_part ∈ gw_l := gw_in (List.mem_of_getElem? (i := 361) (by decide +kernel)) rfl
theorem gc_L_part : Cond.codeWith yL_part cL_part 5 (some .int) [(0, 7, 10, 13), (0, 7, 14, 31)] ∈ gw_l := gw_in (List.mem_of_getElem? (i := 362) (by decide +kernel)) rfl
theorem gm_L33 : Cond.methodLink "BindingBenchLaw" 33 yB_part ∈ gw_l := gw_in (List.mem_of_getElem? (i := 363) (by decide +kernel)) rfl
theorem gi_B_part : Cond.instanceMethod yB_part ∈ gw_l := gw_in (List.mem_of_getElem? (i := 364) (by decide +kernel)) rfl
theorem gs_B_B_part : Cond.selects "BindingBench" yB_part yB_part ∈ gw_l := gw_in (List.mem_of_getElem? (i := 365) (by decide +kernel)) rfl
theorem gc_B_part : Cond.code yB_part cB_part 6 none ∈ gw_l := gw_in (List.mem_of_getElem? (i := 366) (by decide +kernel)) rfl
theorem gm_B74 : Cond.methodLink "BindingBench" 74 yS_cut ∈ gw_l := gw_in (List.mem_of_getElem? (i := 368) (by decide +kernel)) rfl
theorem gi_S_cut : Cond.instanceMethod yS_cut ∈ gw_l := gw_in (List.mem_of_getElem? (i := 369) (by decide +kernel)) rfl
theorem gs_S_S_cut : Cond.selects "BindingBench$Workshop" yS_cut yS_cut ∈ gw_l := gw_in (List.mem_of_getElem? (i := 370) (by decide +kernel)) rfl
theorem gc_S_cut : Cond.code yS_cut cS_cut 4 (some (.object "BindingBench$Term")) ∈ gw_l := gw_in (List.mem_of_getElem? (i := 371) (by decide +kernel)) rfl
theorem gm_S73 : Cond.methodLink "BindingBench$Workshop" 73 yT_endOf ∈ gw_l := gw_in (List.mem_of_getElem? (i := 372) (by decide +kernel)) rfl
theorem gi_T_endOf : Cond.instanceMethod yT_endOf ∈ gw_l := gw_in (List.mem_of_getElem? (i := 373) (by decide +kernel)) rfl
theorem gs_T_T_endOf : Cond.selects "BindingBench$Term" yT_endOf yT_endOf ∈ gw_l := gw_in (List.mem_of_getElem? (i := 374) (by decide +kernel)) rfl
theorem gc_T_endOf : Cond.code yT_endOf cT_endOf 4 (some .int) ∈ gw_l := gw_in (List.mem_of_getElem? (i := 375) (by decide +kernel)) rfl
theorem gm_L100 : Cond.methodLink "BindingBenchLaw" 100 yL_step ∈ gw_l := gw_in (List.mem_of_getElem? (i := 376) (by decide +kernel)) rfl
theorem gt_L_step : Cond.static yL_step ∈ gw_l := gw_in (List.mem_of_getElem? (i := 377) (by decide +kernel)) rfl
theorem gc_L_step : Cond.codeWith yL_step cL_step 5 (some .int) [(0, 17, 20, 13), (0, 17, 24, 19)] ∈ gw_l := gw_in (List.mem_of_getElem? (i := 378) (by decide +kernel)) rfl
theorem gm_L37 : Cond.methodLink "BindingBenchLaw" 37 yB_step ∈ gw_l := gw_in (List.mem_of_getElem? (i := 379) (by decide +kernel)) rfl
theorem gi_B_step : Cond.instanceMethod yB_step ∈ gw_l := gw_in (List.mem_of_getElem? (i := 380) (by decide +kernel)) rfl
theorem gs_B_B_step : Cond.selects "BindingBench" yB_step yB_step ∈ gw_l := gw_in (List.mem_of_getElem? (i := 381) (by decide +kernel)) rfl
theorem gc_B_step : Cond.code yB_step cB_step 6 (some .boolean) ∈ gw_l := gw_in (List.mem_of_getElem? (i := 382) (by decide +kernel)) rfl
theorem gm_B78 : Cond.methodLink "BindingBench" 78 yT_firstRedex ∈ gw_l := gw_in (List.mem_of_getElem? (i := 383) (by decide +kernel)) rfl
theorem gi_T_firstRedex : Cond.instanceMethod yT_firstRedex ∈ gw_l := gw_in (List.mem_of_getElem? (i := 384) (by decide +kernel)) rfl
theorem gs_T_T_firstRedex : Cond.selects "BindingBench$Term" yT_firstRedex yT_firstRedex ∈ gw_l := gw_in (List.mem_of_getElem? (i := 385) (by decide +kernel)) rfl
theorem gc_T_firstRedex : Cond.code yT_firstRedex cT_firstRedex 3 (some .int) ∈ gw_l := gw_in (List.mem_of_getElem? (i := 386) (by decide +kernel)) rfl
theorem gm_T42 : Cond.methodLink "BindingBench$Term" 42 yT_isRedex ∈ gw_l := gw_in (List.mem_of_getElem? (i := 387) (by decide +kernel)) rfl
theorem gi_T_isRedex : Cond.instanceMethod yT_isRedex ∈ gw_l := gw_in (List.mem_of_getElem? (i := 389) (by decide +kernel)) rfl
theorem gc_T_isRedex : Cond.code yT_isRedex cT_isRedex 2 (some .boolean) ∈ gw_l := gw_in (List.mem_of_getElem? (i := 390) (by decide +kernel)) rfl
theorem gm_B82 : Cond.methodLink "BindingBench" 82 yS_contract ∈ gw_l := gw_in (List.mem_of_getElem? (i := 391) (by decide +kernel)) rfl
theorem gi_S_contract : Cond.instanceMethod yS_contract ∈ gw_l := gw_in (List.mem_of_getElem? (i := 392) (by decide +kernel)) rfl
theorem gs_S_S_contract : Cond.selects "BindingBench$Workshop" yS_contract yS_contract ∈ gw_l := gw_in (List.mem_of_getElem? (i := 393) (by decide +kernel)) rfl
theorem gc_S_contract : Cond.code yS_contract cS_contract 5 (some (.object "BindingBench$Term")) ∈ gw_l := gw_in (List.mem_of_getElem? (i := 394) (by decide +kernel)) rfl
theorem gm_L104 : Cond.methodLink "BindingBenchLaw" 104 yL_head ∈ gw_l := gw_in (List.mem_of_getElem? (i := 395) (by decide +kernel)) rfl
theorem gt_L_head : Cond.static yL_head ∈ gw_l := gw_in (List.mem_of_getElem? (i := 396) (by decide +kernel)) rfl
theorem gc_L_head : Cond.codeWith yL_head cL_head 5 (some .int) [(0, 10, 13, 13), (0, 10, 17, 19), (0, 10, 21, 45)] ∈ gw_l := gw_in (List.mem_of_getElem? (i := 397) (by decide +kernel)) rfl
theorem gk_L45 : Cond.classLink "BindingBenchLaw" 45 "java/lang/ArithmeticException" ∈ gw_l := gw_in (List.mem_of_getElem? (i := 398) (by decide +kernel)) rfl
theorem gm_L41 : Cond.methodLink "BindingBenchLaw" 41 yB_head ∈ gw_l := gw_in (List.mem_of_getElem? (i := 399) (by decide +kernel)) rfl
theorem gi_B_head : Cond.instanceMethod yB_head ∈ gw_l := gw_in (List.mem_of_getElem? (i := 400) (by decide +kernel)) rfl
theorem gs_B_B_head : Cond.selects "BindingBench" yB_head yB_head ∈ gw_l := gw_in (List.mem_of_getElem? (i := 401) (by decide +kernel)) rfl
theorem gc_B_head : Cond.code yB_head cB_head 5 (some .int) ∈ gw_l := gw_in (List.mem_of_getElem? (i := 402) (by decide +kernel)) rfl
theorem gm_B85 : Cond.methodLink "BindingBench" 85 yS_reduce ∈ gw_l := gw_in (List.mem_of_getElem? (i := 403) (by decide +kernel)) rfl
theorem gi_S_reduce : Cond.instanceMethod yS_reduce ∈ gw_l := gw_in (List.mem_of_getElem? (i := 404) (by decide +kernel)) rfl
theorem gs_S_S_reduce : Cond.selects "BindingBench$Workshop" yS_reduce yS_reduce ∈ gw_l := gw_in (List.mem_of_getElem? (i := 405) (by decide +kernel)) rfl
theorem gc_S_reduce : Cond.code yS_reduce cS_reduce 7 (some .int) ∈ gw_l := gw_in (List.mem_of_getElem? (i := 406) (by decide +kernel)) rfl
theorem gm_S77 : Cond.methodLink "BindingBench$Workshop" 77 yT_become ∈ gw_l := gw_in (List.mem_of_getElem? (i := 407) (by decide +kernel)) rfl
theorem gm_S81 : Cond.methodLink "BindingBench$Workshop" 81 yT_headRedex ∈ gw_l := gw_in (List.mem_of_getElem? (i := 408) (by decide +kernel)) rfl
theorem gi_T_headRedex : Cond.instanceMethod yT_headRedex ∈ gw_l := gw_in (List.mem_of_getElem? (i := 409) (by decide +kernel)) rfl
theorem gs_T_T_headRedex : Cond.selects "BindingBench$Term" yT_headRedex yT_headRedex ∈ gw_l := gw_in (List.mem_of_getElem? (i := 410) (by decide +kernel)) rfl
theorem gc_T_headRedex : Cond.code yT_headRedex cT_headRedex 2 (some .int) ∈ gw_l := gw_in (List.mem_of_getElem? (i := 411) (by decide +kernel)) rfl
theorem gm_S85 : Cond.methodLink "BindingBench$Workshop" 85 yT_firstRedex ∈ gw_l := gw_in (List.mem_of_getElem? (i := 412) (by decide +kernel)) rfl
theorem gm_S88 : Cond.methodLink "BindingBench$Workshop" 88 yS_contract ∈ gw_l := gw_in (List.mem_of_getElem? (i := 413) (by decide +kernel)) rfl
theorem gk_S98 : Cond.classLink "BindingBench$Workshop" 98 "java/lang/ArithmeticException" ∈ gw_l := gw_in (List.mem_of_getElem? (i := 414) (by decide +kernel)) rfl
theorem gn_Jh : Cond.instantiable "java/lang/ArithmeticException" 6 ∈ gw_l := gw_in (List.mem_of_getElem? (i := 415) (by decide +kernel)) rfl
theorem gs_Jh_Jt_fillInStackTrace_417 : Cond.selects "java/lang/ArithmeticException" (⟨"java/lang/Throwable", "fillInStackTrace", "(I)Ljava/lang/Throwable;"⟩ : MethodName) (⟨"java/lang/Throwable", "fillInStackTrace", "(I)Ljava/lang/Throwable;"⟩ : MethodName) ∈ gw_l := gw_in (List.mem_of_getElem? (i := 417) (by decide +kernel)) rfl
theorem gl_Jh_cause : Cond.lays "java/lang/ArithmeticException" "java/lang/Throwable" "cause" "Ljava/lang/Throwable;" ∈ gw_l := gw_in (List.mem_of_getElem? (i := 418) (by decide +kernel)) rfl
theorem gl_Jh_stackTrace : Cond.lays "java/lang/ArithmeticException" "java/lang/Throwable" "stackTrace" "[Ljava/lang/StackTraceElement;" ∈ gw_l := gw_in (List.mem_of_getElem? (i := 419) (by decide +kernel)) rfl
theorem gl_Jh_suppressedExceptions : Cond.lays "java/lang/ArithmeticException" "java/lang/Throwable" "suppressedExceptions" "Ljava/util/List;" ∈ gw_l := gw_in (List.mem_of_getElem? (i := 420) (by decide +kernel)) rfl
theorem gl_Jh_detailMessage : Cond.lays "java/lang/ArithmeticException" "java/lang/Throwable" "detailMessage" "Ljava/lang/String;" ∈ gw_l := gw_in (List.mem_of_getElem? (i := 421) (by decide +kernel)) rfl
theorem gl_Jh_backtrace : Cond.lays "java/lang/ArithmeticException" "java/lang/Throwable" "backtrace" "Ljava/lang/Object;" ∈ gw_l := gw_in (List.mem_of_getElem? (i := 422) (by decide +kernel)) rfl
theorem gm_S102 : Cond.methodLink "BindingBench$Workshop" 102 (⟨"java/lang/ArithmeticException", "<init>", "(Ljava/lang/String;)V"⟩ : MethodName) ∈ gw_l := gw_in (List.mem_of_getElem? (i := 424) (by decide +kernel)) rfl
theorem gi_Jh_initS : Cond.instanceMethod (⟨"java/lang/ArithmeticException", "<init>", "(Ljava/lang/String;)V"⟩ : MethodName) ∈ gw_l := gw_in (List.mem_of_getElem? (i := 425) (by decide +kernel)) rfl
theorem gc_Jh_initS : Cond.code (⟨"java/lang/ArithmeticException", "<init>", "(Ljava/lang/String;)V"⟩ : MethodName) prog_8_method_2_code 2 none ∈ gw_l := gw_in (List.mem_of_getElem? (i := 426) (by decide +kernel)) rfl
theorem gm_Jh7 : Cond.methodLink "java/lang/ArithmeticException" 7 (⟨"java/lang/RuntimeException", "<init>", "(Ljava/lang/String;)V"⟩ : MethodName) ∈ gw_l := gw_in (List.mem_of_getElem? (i := 427) (by decide +kernel)) rfl
theorem gl_Jh_depth : Cond.lays "java/lang/ArithmeticException" "java/lang/Throwable" "depth" "I" ∈ gw_l := gw_in (List.mem_of_getElem? (i := 428) (by decide +kernel)) rfl
theorem gm_B89 : Cond.methodLink "BindingBench" 89 yS_reduced ∈ gw_l := gw_in (List.mem_of_getElem? (i := 430) (by decide +kernel)) rfl
theorem gi_S_reduced : Cond.instanceMethod yS_reduced ∈ gw_l := gw_in (List.mem_of_getElem? (i := 431) (by decide +kernel)) rfl
theorem gs_S_S_reduced : Cond.selects "BindingBench$Workshop" yS_reduced yS_reduced ∈ gw_l := gw_in (List.mem_of_getElem? (i := 432) (by decide +kernel)) rfl
theorem gc_S_reduced : Cond.code yS_reduced cS_reduced 1 (some (.object "BindingBench$Term")) ∈ gw_l := gw_in (List.mem_of_getElem? (i := 433) (by decide +kernel)) rfl
theorem gm_L107 : Cond.methodLink "BindingBenchLaw" 107 yL_normal ∈ gw_l := gw_in (List.mem_of_getElem? (i := 434) (by decide +kernel)) rfl
theorem gt_L_normal : Cond.static yL_normal ∈ gw_l := gw_in (List.mem_of_getElem? (i := 435) (by decide +kernel)) rfl
theorem gc_L_normal : Cond.codeWith yL_normal cL_normal 5 (some .int) [(0, 10, 13, 13), (0, 10, 17, 19), (0, 10, 21, 45)] ∈ gw_l := gw_in (List.mem_of_getElem? (i := 436) (by decide +kernel)) rfl
theorem gm_L47 : Cond.methodLink "BindingBenchLaw" 47 yB_normal ∈ gw_l := gw_in (List.mem_of_getElem? (i := 437) (by decide +kernel)) rfl
theorem gi_B_normal : Cond.instanceMethod yB_normal ∈ gw_l := gw_in (List.mem_of_getElem? (i := 438) (by decide +kernel)) rfl
theorem gs_B_B_normal : Cond.selects "BindingBench" yB_normal yB_normal ∈ gw_l := gw_in (List.mem_of_getElem? (i := 439) (by decide +kernel)) rfl
theorem gc_B_normal : Cond.code yB_normal cB_normal 5 (some .int) ∈ gw_l := gw_in (List.mem_of_getElem? (i := 440) (by decide +kernel)) rfl
theorem gm_L110 : Cond.methodLink "BindingBenchLaw" 110 yL_same ∈ gw_l := gw_in (List.mem_of_getElem? (i := 441) (by decide +kernel)) rfl
theorem gt_L_same : Cond.static yL_same ∈ gw_l := gw_in (List.mem_of_getElem? (i := 442) (by decide +kernel)) rfl
theorem gc_L_same : Cond.codeWith yL_same cL_same 5 (some .int) [(0, 17, 20, 13)] ∈ gw_l := gw_in (List.mem_of_getElem? (i := 443) (by decide +kernel)) rfl
theorem gm_L50 : Cond.methodLink "BindingBenchLaw" 50 yB_same ∈ gw_l := gw_in (List.mem_of_getElem? (i := 444) (by decide +kernel)) rfl
theorem gi_B_same : Cond.instanceMethod yB_same ∈ gw_l := gw_in (List.mem_of_getElem? (i := 445) (by decide +kernel)) rfl
theorem gs_B_B_same : Cond.selects "BindingBench" yB_same yB_same ∈ gw_l := gw_in (List.mem_of_getElem? (i := 446) (by decide +kernel)) rfl
theorem gc_B_same : Cond.code yB_same cB_same 3 (some .boolean) ∈ gw_l := gw_in (List.mem_of_getElem? (i := 447) (by decide +kernel)) rfl
theorem gm_B93 : Cond.methodLink "BindingBench" 93 yT_equalTo ∈ gw_l := gw_in (List.mem_of_getElem? (i := 448) (by decide +kernel)) rfl
theorem gi_T_equalTo : Cond.instanceMethod yT_equalTo ∈ gw_l := gw_in (List.mem_of_getElem? (i := 449) (by decide +kernel)) rfl
theorem gs_T_T_equalTo : Cond.selects "BindingBench$Term" yT_equalTo yT_equalTo ∈ gw_l := gw_in (List.mem_of_getElem? (i := 450) (by decide +kernel)) rfl
theorem gc_T_equalTo : Cond.code yT_equalTo cT_equalTo 3 (some .boolean) ∈ gw_l := gw_in (List.mem_of_getElem? (i := 451) (by decide +kernel)) rfl
theorem gm_L113 : Cond.methodLink "BindingBenchLaw" 113 yL_about ∈ gw_l := gw_in (List.mem_of_getElem? (i := 452) (by decide +kernel)) rfl
theorem gt_L_about : Cond.static yL_about ∈ gw_l := gw_in (List.mem_of_getElem? (i := 453) (by decide +kernel)) rfl
theorem gc_L_about : Cond.codeWith yL_about cL_about 5 (some .int) [(0, 10, 13, 13), (0, 10, 17, 31)] ∈ gw_l := gw_in (List.mem_of_getElem? (i := 454) (by decide +kernel)) rfl
theorem gm_L53 : Cond.methodLink "BindingBenchLaw" 53 yB_about ∈ gw_l := gw_in (List.mem_of_getElem? (i := 455) (by decide +kernel)) rfl
theorem gi_B_about : Cond.instanceMethod yB_about ∈ gw_l := gw_in (List.mem_of_getElem? (i := 456) (by decide +kernel)) rfl
theorem gs_B_B_about : Cond.selects "BindingBench" yB_about yB_about ∈ gw_l := gw_in (List.mem_of_getElem? (i := 457) (by decide +kernel)) rfl
theorem gc_B_about : Cond.code yB_about cB_about 4 (some .int) ∈ gw_l := gw_in (List.mem_of_getElem? (i := 458) (by decide +kernel)) rfl
theorem gm_B101 : Cond.methodLink "BindingBench" 101 yS_depth ∈ gw_l := gw_in (List.mem_of_getElem? (i := 459) (by decide +kernel)) rfl
theorem gm_B104 : Cond.methodLink "BindingBench" 104 yT_kind ∈ gw_l := gw_in (List.mem_of_getElem? (i := 460) (by decide +kernel)) rfl
theorem gi_T_kind : Cond.instanceMethod yT_kind ∈ gw_l := gw_in (List.mem_of_getElem? (i := 461) (by decide +kernel)) rfl
theorem gs_T_T_kind : Cond.selects "BindingBench$Term" yT_kind yT_kind ∈ gw_l := gw_in (List.mem_of_getElem? (i := 462) (by decide +kernel)) rfl
theorem gc_T_kind : Cond.code yT_kind cT_kind 1 (some .int) ∈ gw_l := gw_in (List.mem_of_getElem? (i := 463) (by decide +kernel)) rfl
theorem gm_B107 : Cond.methodLink "BindingBench" 107 yT_differentFree ∈ gw_l := gw_in (List.mem_of_getElem? (i := 464) (by decide +kernel)) rfl
theorem gi_T_differentFree : Cond.instanceMethod yT_differentFree ∈ gw_l := gw_in (List.mem_of_getElem? (i := 465) (by decide +kernel)) rfl
theorem gs_T_T_differentFree : Cond.selects "BindingBench$Term" yT_differentFree yT_differentFree ∈ gw_l := gw_in (List.mem_of_getElem? (i := 466) (by decide +kernel)) rfl
theorem gc_T_differentFree : Cond.code yT_differentFree cT_differentFree 7 (some .int) ∈ gw_l := gw_in (List.mem_of_getElem? (i := 467) (by decide +kernel)) rfl
theorem gm_T45 : Cond.methodLink "BindingBench$Term" 45 yJ_bitCount ∈ gw_l := gw_in (List.mem_of_getElem? (i := 468) (by decide +kernel)) rfl
theorem gt_J_bitCount : Cond.static yJ_bitCount ∈ gw_l := gw_in (List.mem_of_getElem? (i := 469) (by decide +kernel)) rfl
theorem gc_J_bitCount : Cond.code yJ_bitCount cJ_bitCount 2 (some .int) ∈ gw_l := gw_in (List.mem_of_getElem? (i := 470) (by decide +kernel)) rfl
theorem gq_Jl314 : Cond.constantLong "java/lang/Long" 314 6148914691236517205 ∈ gw_l := gw_in (List.mem_of_getElem? (i := 471) (by decide +kernel)) rfl
theorem gq_Jl316 : Cond.constantLong "java/lang/Long" 316 3689348814741910323 ∈ gw_l := gw_in (List.mem_of_getElem? (i := 472) (by decide +kernel)) rfl
theorem gq_Jl318 : Cond.constantLong "java/lang/Long" 318 1085102592571150095 ∈ gw_l := gw_in (List.mem_of_getElem? (i := 473) (by decide +kernel)) rfl
theorem gm_B110 : Cond.methodLink "BindingBench" 110 yT_redexes ∈ gw_l := gw_in (List.mem_of_getElem? (i := 474) (by decide +kernel)) rfl
theorem gi_T_redexes : Cond.instanceMethod yT_redexes ∈ gw_l := gw_in (List.mem_of_getElem? (i := 475) (by decide +kernel)) rfl
theorem gs_T_T_redexes : Cond.selects "BindingBench$Term" yT_redexes yT_redexes ∈ gw_l := gw_in (List.mem_of_getElem? (i := 476) (by decide +kernel)) rfl
theorem gc_T_redexes : Cond.code yT_redexes cT_redexes 3 (some .int) ∈ gw_l := gw_in (List.mem_of_getElem? (i := 477) (by decide +kernel)) rfl
theorem gm_L116 : Cond.methodLink "BindingBenchLaw" 116 yL_has ∈ gw_l := gw_in (List.mem_of_getElem? (i := 479) (by decide +kernel)) rfl
theorem gt_L_has : Cond.static yL_has ∈ gw_l := gw_in (List.mem_of_getElem? (i := 480) (by decide +kernel)) rfl
theorem gc_L_has : Cond.codeWith yL_has cL_has 5 (some .int) [(0, 10, 13, 13)] ∈ gw_l := gw_in (List.mem_of_getElem? (i := 481) (by decide +kernel)) rfl
theorem gm_L56 : Cond.methodLink "BindingBenchLaw" 56 yB_has ∈ gw_l := gw_in (List.mem_of_getElem? (i := 482) (by decide +kernel)) rfl
theorem gi_B_has : Cond.instanceMethod yB_has ∈ gw_l := gw_in (List.mem_of_getElem? (i := 483) (by decide +kernel)) rfl
theorem gs_B_B_has : Cond.selects "BindingBench" yB_has yB_has ∈ gw_l := gw_in (List.mem_of_getElem? (i := 484) (by decide +kernel)) rfl
theorem gc_B_has : Cond.code yB_has cB_has 4 (some .int) ∈ gw_l := gw_in (List.mem_of_getElem? (i := 485) (by decide +kernel)) rfl
theorem gm_B115 : Cond.methodLink "BindingBench" 115 yT_places ∈ gw_l := gw_in (List.mem_of_getElem? (i := 486) (by decide +kernel)) rfl
theorem gi_T_places : Cond.instanceMethod yT_places ∈ gw_l := gw_in (List.mem_of_getElem? (i := 487) (by decide +kernel)) rfl
theorem gs_T_T_places : Cond.selects "BindingBench$Term" yT_places yT_places ∈ gw_l := gw_in (List.mem_of_getElem? (i := 488) (by decide +kernel)) rfl
theorem gc_T_places : Cond.code yT_places cT_places 4 (some .int) ∈ gw_l := gw_in (List.mem_of_getElem? (i := 489) (by decide +kernel)) rfl
theorem gm_L119 : Cond.methodLink "BindingBenchLaw" 119 yL_write ∈ gw_l := gw_in (List.mem_of_getElem? (i := 490) (by decide +kernel)) rfl
theorem gt_L_write : Cond.static yL_write ∈ gw_l := gw_in (List.mem_of_getElem? (i := 491) (by decide +kernel)) rfl
theorem gc_L_write : Cond.codeWith yL_write cL_write 4 (some .int) [(0, 9, 12, 13)] ∈ gw_l := gw_in (List.mem_of_getElem? (i := 492) (by decide +kernel)) rfl
theorem gm_L59 : Cond.methodLink "BindingBenchLaw" 59 yB_write ∈ gw_l := gw_in (List.mem_of_getElem? (i := 493) (by decide +kernel)) rfl
theorem gi_B_write : Cond.instanceMethod yB_write ∈ gw_l := gw_in (List.mem_of_getElem? (i := 494) (by decide +kernel)) rfl
theorem gs_B_B_write : Cond.selects "BindingBench" yB_write yB_write ∈ gw_l := gw_in (List.mem_of_getElem? (i := 495) (by decide +kernel)) rfl
theorem gc_B_write : Cond.code yB_write cB_write 2 (some .int) ∈ gw_l := gw_in (List.mem_of_getElem? (i := 496) (by decide +kernel)) rfl
theorem gm_B118 : Cond.methodLink "BindingBench" 118 yX_show ∈ gw_l := gw_in (List.mem_of_getElem? (i := 497) (by decide +kernel)) rfl
theorem gi_X_show : Cond.instanceMethod yX_show ∈ gw_l := gw_in (List.mem_of_getElem? (i := 498) (by decide +kernel)) rfl
theorem gs_X_X_show : Cond.selects "BindingBench$Text" yX_show yX_show ∈ gw_l := gw_in (List.mem_of_getElem? (i := 499) (by decide +kernel)) rfl
theorem gc_X_show : Cond.code yX_show cX_show 5 (some .int) ∈ gw_l := gw_in (List.mem_of_getElem? (i := 500) (by decide +kernel)) rfl
theorem gm_X28 : Cond.methodLink "BindingBench$Text" 28 yW_start ∈ gw_l := gw_in (List.mem_of_getElem? (i := 501) (by decide +kernel)) rfl
theorem gm_X43 : Cond.methodLink "BindingBench$Text" 43 yW_pass ∈ gw_l := gw_in (List.mem_of_getElem? (i := 502) (by decide +kernel)) rfl
theorem gm_X47 : Cond.methodLink "BindingBench$Text" 47 yX_add ∈ gw_l := gw_in (List.mem_of_getElem? (i := 503) (by decide +kernel)) rfl
theorem gi_X_add : Cond.instanceMethod yX_add ∈ gw_l := gw_in (List.mem_of_getElem? (i := 505) (by decide +kernel)) rfl
theorem gc_X_add : Cond.code yX_add cX_add 4 none ∈ gw_l := gw_in (List.mem_of_getElem? (i := 506) (by decide +kernel)) rfl
theorem gm_X54 : Cond.methodLink "BindingBench$Text" 54 yJ_copyOf ∈ gw_l := gw_in (List.mem_of_getElem? (i := 507) (by decide +kernel)) rfl
theorem gt_J_copyOf : Cond.static yJ_copyOf ∈ gw_l := gw_in (List.mem_of_getElem? (i := 508) (by decide +kernel)) rfl
theorem gc_J_copyOf : Cond.code yJ_copyOf cJ_copyOf 3 (some (.array .byte)) ∈ gw_l := gw_in (List.mem_of_getElem? (i := 509) (by decide +kernel)) rfl
theorem gm_Ja310 : Cond.methodLink "java/util/Arrays" 310 (⟨"[B", "clone", "()Ljava/lang/Object;"⟩ : MethodName) ∈ gw_l := gw_in (List.mem_of_getElem? (i := 510) (by decide +kernel)) rfl
theorem gv_O_clone : Cond.native (⟨"java/lang/Object", "clone", "()Ljava/lang/Object;"⟩ : MethodName) ∈ gw_l := gw_in (List.mem_of_getElem? (i := 512) (by decide +kernel)) rfl
theorem gi_O_clone : Cond.instanceMethod (⟨"java/lang/Object", "clone", "()Ljava/lang/Object;"⟩ : MethodName) ∈ gw_l := gw_in (List.mem_of_getElem? (i := 513) (by decide +kernel)) rfl
theorem gs_Z_Z_clone : Cond.selects "[B" (⟨"[B", "clone", "()Ljava/lang/Object;"⟩ : MethodName) (⟨"java/lang/Object", "clone", "()Ljava/lang/Object;"⟩ : MethodName) ∈ gw_l := gw_in (List.mem_of_getElem? (i := 514) (by decide +kernel)) rfl
theorem gk_Ja311 : Cond.classLink "java/util/Arrays" 311 "[B" ∈ gw_l := gw_in (List.mem_of_getElem? (i := 516) (by decide +kernel)) rfl
theorem gm_Ja304 : Cond.methodLink "java/util/Arrays" 304 (⟨"java/lang/Math", "min", "(II)I"⟩ : MethodName) ∈ gw_l := gw_in (List.mem_of_getElem? (i := 517) (by decide +kernel)) rfl
theorem gm_Ja150 : Cond.methodLink "java/util/Arrays" 150 arraycopyName ∈ gw_l := gw_in (List.mem_of_getElem? (i := 518) (by decide +kernel)) rfl
theorem gm_X51 : Cond.methodLink "BindingBench$Text" 51 yX_addLeaf ∈ gw_l := gw_in (List.mem_of_getElem? (i := 519) (by decide +kernel)) rfl
theorem gi_X_addLeaf : Cond.instanceMethod yX_addLeaf ∈ gw_l := gw_in (List.mem_of_getElem? (i := 521) (by decide +kernel)) rfl
theorem gc_X_addLeaf : Cond.code yX_addLeaf cX_addLeaf 2 none ∈ gw_l := gw_in (List.mem_of_getElem? (i := 522) (by decide +kernel)) rfl
theorem gm_L123 : Cond.methodLink "BindingBenchLaw" 123 yL_out ∈ gw_l := gw_in (List.mem_of_getElem? (i := 523) (by decide +kernel)) rfl
theorem gt_L_out : Cond.static yL_out ∈ gw_l := gw_in (List.mem_of_getElem? (i := 524) (by decide +kernel)) rfl
theorem gc_L_out : Cond.codeWith yL_out cL_out 4 (some .int) [(0, 9, 12, 66)] ∈ gw_l := gw_in (List.mem_of_getElem? (i := 525) (by decide +kernel)) rfl
theorem gk_L66 : Cond.classLink "BindingBenchLaw" 66 "java/lang/IndexOutOfBoundsException" ∈ gw_l := gw_in (List.mem_of_getElem? (i := 526) (by decide +kernel)) rfl
theorem gm_L63 : Cond.methodLink "BindingBenchLaw" 63 yB_out ∈ gw_l := gw_in (List.mem_of_getElem? (i := 527) (by decide +kernel)) rfl
theorem gi_B_out : Cond.instanceMethod yB_out ∈ gw_l := gw_in (List.mem_of_getElem? (i := 528) (by decide +kernel)) rfl
theorem gs_B_B_out : Cond.selects "BindingBench" yB_out yB_out ∈ gw_l := gw_in (List.mem_of_getElem? (i := 529) (by decide +kernel)) rfl
theorem gc_B_out : Cond.code yB_out cB_out 2 (some .int) ∈ gw_l := gw_in (List.mem_of_getElem? (i := 530) (by decide +kernel)) rfl
theorem gk_B124 : Cond.classLink "BindingBench" 124 "java/lang/IndexOutOfBoundsException" ∈ gw_l := gw_in (List.mem_of_getElem? (i := 531) (by decide +kernel)) rfl
theorem gn_Jx : Cond.instantiable "java/lang/IndexOutOfBoundsException" 6 ∈ gw_l := gw_in (List.mem_of_getElem? (i := 532) (by decide +kernel)) rfl
theorem gs_Jx_Jt_fillInStackTrace_534 : Cond.selects "java/lang/IndexOutOfBoundsException" (⟨"java/lang/Throwable", "fillInStackTrace", "(I)Ljava/lang/Throwable;"⟩ : MethodName) (⟨"java/lang/Throwable", "fillInStackTrace", "(I)Ljava/lang/Throwable;"⟩ : MethodName) ∈ gw_l := gw_in (List.mem_of_getElem? (i := 534) (by decide +kernel)) rfl
theorem gl_Jx_cause : Cond.lays "java/lang/IndexOutOfBoundsException" "java/lang/Throwable" "cause" "Ljava/lang/Throwable;" ∈ gw_l := gw_in (List.mem_of_getElem? (i := 535) (by decide +kernel)) rfl
theorem gl_Jx_stackTrace : Cond.lays "java/lang/IndexOutOfBoundsException" "java/lang/Throwable" "stackTrace" "[Ljava/lang/StackTraceElement;" ∈ gw_l := gw_in (List.mem_of_getElem? (i := 536) (by decide +kernel)) rfl
theorem gl_Jx_suppressedExceptions : Cond.lays "java/lang/IndexOutOfBoundsException" "java/lang/Throwable" "suppressedExceptions" "Ljava/util/List;" ∈ gw_l := gw_in (List.mem_of_getElem? (i := 537) (by decide +kernel)) rfl
theorem gl_Jx_detailMessage : Cond.lays "java/lang/IndexOutOfBoundsException" "java/lang/Throwable" "detailMessage" "Ljava/lang/String;" ∈ gw_l := gw_in (List.mem_of_getElem? (i := 538) (by decide +kernel)) rfl
theorem gl_Jx_backtrace : Cond.lays "java/lang/IndexOutOfBoundsException" "java/lang/Throwable" "backtrace" "Ljava/lang/Object;" ∈ gw_l := gw_in (List.mem_of_getElem? (i := 539) (by decide +kernel)) rfl
theorem gm_B128 : Cond.methodLink "BindingBench" 128 (⟨"java/lang/IndexOutOfBoundsException", "<init>", "(Ljava/lang/String;)V"⟩ : MethodName) ∈ gw_l := gw_in (List.mem_of_getElem? (i := 541) (by decide +kernel)) rfl
theorem gi_Jx_initS : Cond.instanceMethod (⟨"java/lang/IndexOutOfBoundsException", "<init>", "(Ljava/lang/String;)V"⟩ : MethodName) ∈ gw_l := gw_in (List.mem_of_getElem? (i := 542) (by decide +kernel)) rfl
theorem gc_Jx_initS : Cond.code (⟨"java/lang/IndexOutOfBoundsException", "<init>", "(Ljava/lang/String;)V"⟩ : MethodName) prog_13_method_2_code 2 none ∈ gw_l := gw_in (List.mem_of_getElem? (i := 543) (by decide +kernel)) rfl
theorem gm_Jx7 : Cond.methodLink "java/lang/IndexOutOfBoundsException" 7 (⟨"java/lang/RuntimeException", "<init>", "(Ljava/lang/String;)V"⟩ : MethodName) ∈ gw_l := gw_in (List.mem_of_getElem? (i := 544) (by decide +kernel)) rfl
theorem gl_Jx_depth : Cond.lays "java/lang/IndexOutOfBoundsException" "java/lang/Throwable" "depth" "I" ∈ gw_l := gw_in (List.mem_of_getElem? (i := 545) (by decide +kernel)) rfl
theorem gk_L69 : Cond.classLink "BindingBenchLaw" 69 "BindingBenchModel" ∈ gw_l := gw_in (List.mem_of_getElem? (i := 547) (by decide +kernel)) rfl
theorem gn_M : Cond.instantiable "BindingBenchModel" 15 ∈ gw_l := gw_in (List.mem_of_getElem? (i := 548) (by decide +kernel)) rfl
theorem gm_L71 : Cond.methodLink "BindingBenchLaw" 71 yM_init ∈ gw_l := gw_in (List.mem_of_getElem? (i := 549) (by decide +kernel)) rfl
theorem gi_M_init : Cond.instanceMethod yM_init ∈ gw_l := gw_in (List.mem_of_getElem? (i := 550) (by decide +kernel)) rfl
theorem gc_M_init : Cond.code yM_init cM_init 1 none ∈ gw_l := gw_in (List.mem_of_getElem? (i := 551) (by decide +kernel)) rfl
theorem gm_M1 : Cond.methodLink "BindingBenchModel" 1 objectInit ∈ gw_l := gw_in (List.mem_of_getElem? (i := 552) (by decide +kernel)) rfl
theorem gk_M13 : Cond.classLink "BindingBenchModel" 13 "[[I" ∈ gw_l := gw_in (List.mem_of_getElem? (i := 553) (by decide +kernel)) rfl
theorem gq_M41 : Cond.constant "BindingBenchModel" 41 310000 ∈ gw_l := gw_in (List.mem_of_getElem? (i := 555) (by decide +kernel)) rfl
theorem gm_M61 : Cond.methodLink "BindingBenchModel" 61 yJ_fill ∈ gw_l := gw_in (List.mem_of_getElem? (i := 556) (by decide +kernel)) rfl
theorem gt_J_fill : Cond.static yJ_fill ∈ gw_l := gw_in (List.mem_of_getElem? (i := 557) (by decide +kernel)) rfl
theorem gc_J_fill : Cond.code yJ_fill cJ_fill 4 none ∈ gw_l := gw_in (List.mem_of_getElem? (i := 558) (by decide +kernel)) rfl
theorem gf_M7 : Cond.fieldLink "BindingBenchModel" 7 "BindingBenchModel" "thrown" "I" ∈ gw_l := gw_in (List.mem_of_getElem? (i := 559) (by decide +kernel)) rfl
theorem gf_M15 : Cond.fieldLink "BindingBenchModel" 15 "BindingBenchModel" "register" "[[I" ∈ gw_l := gw_in (List.mem_of_getElem? (i := 560) (by decide +kernel)) rfl
theorem gf_M18 : Cond.fieldLink "BindingBenchModel" 18 "BindingBenchModel" "size" "[I" ∈ gw_l := gw_in (List.mem_of_getElem? (i := 561) (by decide +kernel)) rfl
theorem gf_M22 : Cond.fieldLink "BindingBenchModel" 22 "BindingBenchModel" "made" "[I" ∈ gw_l := gw_in (List.mem_of_getElem? (i := 562) (by decide +kernel)) rfl
theorem gf_M25 : Cond.fieldLink "BindingBenchModel" 25 "BindingBenchModel" "work" "[I" ∈ gw_l := gw_in (List.mem_of_getElem? (i := 563) (by decide +kernel)) rfl
theorem gf_M28 : Cond.fieldLink "BindingBenchModel" 28 "BindingBenchModel" "now" "[I" ∈ gw_l := gw_in (List.mem_of_getElem? (i := 564) (by decide +kernel)) rfl
theorem gf_M31 : Cond.fieldLink "BindingBenchModel" 31 "BindingBenchModel" "madeSize" "I" ∈ gw_l := gw_in (List.mem_of_getElem? (i := 565) (by decide +kernel)) rfl
theorem gf_M34 : Cond.fieldLink "BindingBenchModel" 34 "BindingBenchModel" "nowSize" "I" ∈ gw_l := gw_in (List.mem_of_getElem? (i := 566) (by decide +kernel)) rfl
theorem gf_M37 : Cond.fieldLink "BindingBenchModel" 37 "BindingBenchModel" "beyond" "Z" ∈ gw_l := gw_in (List.mem_of_getElem? (i := 567) (by decide +kernel)) rfl
theorem gf_M42 : Cond.fieldLink "BindingBenchModel" 42 "BindingBenchModel" "out" "[B" ∈ gw_l := gw_in (List.mem_of_getElem? (i := 568) (by decide +kernel)) rfl
theorem gf_M46 : Cond.fieldLink "BindingBenchModel" 46 "BindingBenchModel" "outSize" "I" ∈ gw_l := gw_in (List.mem_of_getElem? (i := 569) (by decide +kernel)) rfl
theorem gf_M49 : Cond.fieldLink "BindingBenchModel" 49 "BindingBenchModel" "open" "[I" ∈ gw_l := gw_in (List.mem_of_getElem? (i := 570) (by decide +kernel)) rfl
theorem gf_M52 : Cond.fieldLink "BindingBenchModel" 52 "BindingBenchModel" "at" "I" ∈ gw_l := gw_in (List.mem_of_getElem? (i := 571) (by decide +kernel)) rfl
theorem gf_M55 : Cond.fieldLink "BindingBenchModel" 55 "BindingBenchModel" "named" "I" ∈ gw_l := gw_in (List.mem_of_getElem? (i := 572) (by decide +kernel)) rfl
theorem gf_M58 : Cond.fieldLink "BindingBenchModel" 58 "BindingBenchModel" "names" "[I" ∈ gw_l := gw_in (List.mem_of_getElem? (i := 573) (by decide +kernel)) rfl
theorem gl_M_thrown : Cond.lays "BindingBenchModel" "BindingBenchModel" "thrown" "I" ∈ gw_l := gw_in (List.mem_of_getElem? (i := 574) (by decide +kernel)) rfl
theorem gl_M_register : Cond.laysFinal "BindingBenchModel" "BindingBenchModel" "register" "[[I" ∈ gw_l := gw_in (List.mem_of_getElem? (i := 576) (by decide +kernel)) rfl
theorem gl_M_size : Cond.laysFinal "BindingBenchModel" "BindingBenchModel" "size" "[I" ∈ gw_l := gw_in (List.mem_of_getElem? (i := 578) (by decide +kernel)) rfl
theorem gl_M_made : Cond.laysFinal "BindingBenchModel" "BindingBenchModel" "made" "[I" ∈ gw_l := gw_in (List.mem_of_getElem? (i := 580) (by decide +kernel)) rfl
theorem gl_M_work : Cond.laysFinal "BindingBenchModel" "BindingBenchModel" "work" "[I" ∈ gw_l := gw_in (List.mem_of_getElem? (i := 582) (by decide +kernel)) rfl
theorem gl_M_now : Cond.laysFinal "BindingBenchModel" "BindingBenchModel" "now" "[I" ∈ gw_l := gw_in (List.mem_of_getElem? (i := 584) (by decide +kernel)) rfl
theorem gl_M_madeSize : Cond.lays "BindingBenchModel" "BindingBenchModel" "madeSize" "I" ∈ gw_l := gw_in (List.mem_of_getElem? (i := 586) (by decide +kernel)) rfl
theorem gl_M_nowSize : Cond.lays "BindingBenchModel" "BindingBenchModel" "nowSize" "I" ∈ gw_l := gw_in (List.mem_of_getElem? (i := 588) (by decide +kernel)) rfl
theorem gl_M_beyond : Cond.lays "BindingBenchModel" "BindingBenchModel" "beyond" "Z" ∈ gw_l := gw_in (List.mem_of_getElem? (i := 590) (by decide +kernel)) rfl
theorem gl_M_out : Cond.laysFinal "BindingBenchModel" "BindingBenchModel" "out" "[B" ∈ gw_l := gw_in (List.mem_of_getElem? (i := 592) (by decide +kernel)) rfl
theorem gl_M_outSize : Cond.lays "BindingBenchModel" "BindingBenchModel" "outSize" "I" ∈ gw_l := gw_in (List.mem_of_getElem? (i := 594) (by decide +kernel)) rfl
theorem gl_M_open : Cond.laysFinal "BindingBenchModel" "BindingBenchModel" "open" "[I" ∈ gw_l := gw_in (List.mem_of_getElem? (i := 596) (by decide +kernel)) rfl
theorem gl_M_at : Cond.lays "BindingBenchModel" "BindingBenchModel" "at" "I" ∈ gw_l := gw_in (List.mem_of_getElem? (i := 598) (by decide +kernel)) rfl
theorem gl_M_named : Cond.lays "BindingBenchModel" "BindingBenchModel" "named" "I" ∈ gw_l := gw_in (List.mem_of_getElem? (i := 600) (by decide +kernel)) rfl
theorem gl_M_names : Cond.laysFinal "BindingBenchModel" "BindingBenchModel" "names" "[I" ∈ gw_l := gw_in (List.mem_of_getElem? (i := 602) (by decide +kernel)) rfl
theorem gm_L78 : Cond.methodLink "BindingBenchLaw" 78 yM_thrown ∈ gw_l := gw_in (List.mem_of_getElem? (i := 605) (by decide +kernel)) rfl
theorem gi_M_thrown : Cond.instanceMethod yM_thrown ∈ gw_l := gw_in (List.mem_of_getElem? (i := 606) (by decide +kernel)) rfl
theorem gs_M_M_thrown : Cond.selects "BindingBenchModel" yM_thrown yM_thrown ∈ gw_l := gw_in (List.mem_of_getElem? (i := 607) (by decide +kernel)) rfl
theorem gc_M_thrown : Cond.code yM_thrown cM_thrown 1 (some .int) ∈ gw_l := gw_in (List.mem_of_getElem? (i := 608) (by decide +kernel)) rfl
theorem gm_L77 : Cond.methodLink "BindingBenchLaw" 77 yM_free ∈ gw_l := gw_in (List.mem_of_getElem? (i := 609) (by decide +kernel)) rfl
theorem gi_M_free : Cond.instanceMethod yM_free ∈ gw_l := gw_in (List.mem_of_getElem? (i := 610) (by decide +kernel)) rfl
theorem gs_M_M_free : Cond.selects "BindingBenchModel" yM_free yM_free ∈ gw_l := gw_in (List.mem_of_getElem? (i := 611) (by decide +kernel)) rfl
theorem gc_M_free : Cond.code yM_free cM_free 3 none ∈ gw_l := gw_in (List.mem_of_getElem? (i := 612) (by decide +kernel)) rfl
theorem gm_M100 : Cond.methodLink "BindingBenchModel" 100 yM_none ∈ gw_l := gw_in (List.mem_of_getElem? (i := 613) (by decide +kernel)) rfl
theorem gi_M_none : Cond.instanceMethod yM_none ∈ gw_l := gw_in (List.mem_of_getElem? (i := 615) (by decide +kernel)) rfl
theorem gc_M_none : Cond.code yM_none cM_none 2 (some .boolean) ∈ gw_l := gw_in (List.mem_of_getElem? (i := 616) (by decide +kernel)) rfl
theorem gm_M67 : Cond.methodLink "BindingBenchModel" 67 yM_refuse ∈ gw_l := gw_in (List.mem_of_getElem? (i := 617) (by decide +kernel)) rfl
theorem gi_M_refuse : Cond.instanceMethod yM_refuse ∈ gw_l := gw_in (List.mem_of_getElem? (i := 619) (by decide +kernel)) rfl
theorem gc_M_refuse : Cond.code yM_refuse cM_refuse 3 (some .boolean) ∈ gw_l := gw_in (List.mem_of_getElem? (i := 620) (by decide +kernel)) rfl
theorem gm_M104 : Cond.methodLink "BindingBenchModel" 104 yM_begin ∈ gw_l := gw_in (List.mem_of_getElem? (i := 621) (by decide +kernel)) rfl
theorem gi_M_begin : Cond.instanceMethod yM_begin ∈ gw_l := gw_in (List.mem_of_getElem? (i := 623) (by decide +kernel)) rfl
theorem gc_M_begin : Cond.code yM_begin cM_begin 1 none ∈ gw_l := gw_in (List.mem_of_getElem? (i := 624) (by decide +kernel)) rfl
theorem gm_M71 : Cond.methodLink "BindingBenchModel" 71 yM_add ∈ gw_l := gw_in (List.mem_of_getElem? (i := 625) (by decide +kernel)) rfl
theorem gi_M_add : Cond.instanceMethod yM_add ∈ gw_l := gw_in (List.mem_of_getElem? (i := 627) (by decide +kernel)) rfl
theorem gc_M_add : Cond.code yM_add cM_add 2 none ∈ gw_l := gw_in (List.mem_of_getElem? (i := 628) (by decide +kernel)) rfl
theorem gm_M107 : Cond.methodLink "BindingBenchModel" 107 yM_keep ∈ gw_l := gw_in (List.mem_of_getElem? (i := 629) (by decide +kernel)) rfl
theorem gi_M_keep : Cond.instanceMethod yM_keep ∈ gw_l := gw_in (List.mem_of_getElem? (i := 631) (by decide +kernel)) rfl
theorem gc_M_keep : Cond.code yM_keep cM_keep 2 (some .int) ∈ gw_l := gw_in (List.mem_of_getElem? (i := 632) (by decide +kernel)) rfl
theorem gm_M94 : Cond.methodLink "BindingBenchModel" 94 arraycopyName ∈ gw_l := gw_in (List.mem_of_getElem? (i := 633) (by decide +kernel)) rfl
theorem gm_L85 : Cond.methodLink "BindingBenchLaw" 85 yM_apply ∈ gw_l := gw_in (List.mem_of_getElem? (i := 634) (by decide +kernel)) rfl
theorem gi_M_apply : Cond.instanceMethod yM_apply ∈ gw_l := gw_in (List.mem_of_getElem? (i := 635) (by decide +kernel)) rfl
theorem gs_M_M_apply : Cond.selects "BindingBenchModel" yM_apply yM_apply ∈ gw_l := gw_in (List.mem_of_getElem? (i := 636) (by decide +kernel)) rfl
theorem gc_M_apply : Cond.code yM_apply cM_apply 4 (some .int) ∈ gw_l := gw_in (List.mem_of_getElem? (i := 637) (by decide +kernel)) rfl
theorem gm_M75 : Cond.methodLink "BindingBenchModel" 75 yM_add2 ∈ gw_l := gw_in (List.mem_of_getElem? (i := 638) (by decide +kernel)) rfl
theorem gi_M_add2 : Cond.instanceMethod yM_add2 ∈ gw_l := gw_in (List.mem_of_getElem? (i := 640) (by decide +kernel)) rfl
theorem gc_M_add2 : Cond.code yM_add2 cM_add2 5 none ∈ gw_l := gw_in (List.mem_of_getElem? (i := 641) (by decide +kernel)) rfl
theorem gm_M111 : Cond.methodLink "BindingBenchModel" 111 yM_whole ∈ gw_l := gw_in (List.mem_of_getElem? (i := 642) (by decide +kernel)) rfl
theorem gi_M_whole : Cond.instanceMethod yM_whole ∈ gw_l := gw_in (List.mem_of_getElem? (i := 644) (by decide +kernel)) rfl
theorem gc_M_whole : Cond.code yM_whole cM_whole 1 (some .boolean) ∈ gw_l := gw_in (List.mem_of_getElem? (i := 645) (by decide +kernel)) rfl
theorem gm_M87 : Cond.methodLink "BindingBenchModel" 87 yM_depth ∈ gw_l := gw_in (List.mem_of_getElem? (i := 646) (by decide +kernel)) rfl
theorem gi_M_depth : Cond.instanceMethod yM_depth ∈ gw_l := gw_in (List.mem_of_getElem? (i := 648) (by decide +kernel)) rfl
theorem gc_M_depth : Cond.code yM_depth cM_depth 6 (some .int) ∈ gw_l := gw_in (List.mem_of_getElem? (i := 649) (by decide +kernel)) rfl
theorem gm_M78 : Cond.methodLink "BindingBenchModel" 78 (⟨"java/lang/Math", "max", "(II)I"⟩ : MethodName) ∈ gw_l := gw_in (List.mem_of_getElem? (i := 650) (by decide +kernel)) rfl
theorem gm_M91 : Cond.methodLink "BindingBenchModel" 91 yM_renamed ∈ gw_l := gw_in (List.mem_of_getElem? (i := 651) (by decide +kernel)) rfl
theorem gi_M_renamed : Cond.instanceMethod yM_renamed ∈ gw_l := gw_in (List.mem_of_getElem? (i := 653) (by decide +kernel)) rfl
theorem gc_M_renamed : Cond.code yM_renamed cM_renamed 1 none ∈ gw_l := gw_in (List.mem_of_getElem? (i := 654) (by decide +kernel)) rfl
theorem gm_M84 : Cond.methodLink "BindingBenchModel" 84 yM_rename ∈ gw_l := gw_in (List.mem_of_getElem? (i := 655) (by decide +kernel)) rfl
theorem gi_M_rename : Cond.instanceMethod yM_rename ∈ gw_l := gw_in (List.mem_of_getElem? (i := 657) (by decide +kernel)) rfl
theorem gc_M_rename : Cond.code yM_rename cM_rename 4 none ∈ gw_l := gw_in (List.mem_of_getElem? (i := 658) (by decide +kernel)) rfl
theorem gm_L88 : Cond.methodLink "BindingBenchLaw" 88 yM_bind ∈ gw_l := gw_in (List.mem_of_getElem? (i := 659) (by decide +kernel)) rfl
theorem gi_M_bind : Cond.instanceMethod yM_bind ∈ gw_l := gw_in (List.mem_of_getElem? (i := 660) (by decide +kernel)) rfl
theorem gs_M_M_bind : Cond.selects "BindingBenchModel" yM_bind yM_bind ∈ gw_l := gw_in (List.mem_of_getElem? (i := 661) (by decide +kernel)) rfl
theorem gc_M_bind : Cond.code yM_bind cM_bind 4 (some .int) ∈ gw_l := gw_in (List.mem_of_getElem? (i := 662) (by decide +kernel)) rfl
theorem gm_M115 : Cond.methodLink "BindingBenchModel" 115 yM_add3 ∈ gw_l := gw_in (List.mem_of_getElem? (i := 663) (by decide +kernel)) rfl
theorem gi_M_add3 : Cond.instanceMethod yM_add3 ∈ gw_l := gw_in (List.mem_of_getElem? (i := 665) (by decide +kernel)) rfl
theorem gc_M_add3 : Cond.code yM_add3 cM_add3 9 none ∈ gw_l := gw_in (List.mem_of_getElem? (i := 666) (by decide +kernel)) rfl
theorem gm_L92 : Cond.methodLink "BindingBenchLaw" 92 yM_put ∈ gw_l := gw_in (List.mem_of_getElem? (i := 667) (by decide +kernel)) rfl
theorem gi_M_put : Cond.instanceMethod yM_put ∈ gw_l := gw_in (List.mem_of_getElem? (i := 668) (by decide +kernel)) rfl
theorem gs_M_M_put : Cond.selects "BindingBenchModel" yM_put yM_put ∈ gw_l := gw_in (List.mem_of_getElem? (i := 669) (by decide +kernel)) rfl
theorem gc_M_put : Cond.code yM_put cM_put 5 (some .int) ∈ gw_l := gw_in (List.mem_of_getElem? (i := 670) (by decide +kernel)) rfl
theorem gm_L95 : Cond.methodLink "BindingBenchLaw" 95 yM_open ∈ gw_l := gw_in (List.mem_of_getElem? (i := 671) (by decide +kernel)) rfl
theorem gi_M_open : Cond.instanceMethod yM_open ∈ gw_l := gw_in (List.mem_of_getElem? (i := 672) (by decide +kernel)) rfl
theorem gs_M_M_open : Cond.selects "BindingBenchModel" yM_open yM_open ∈ gw_l := gw_in (List.mem_of_getElem? (i := 673) (by decide +kernel)) rfl
theorem gc_M_open : Cond.code yM_open cM_open 4 (some .int) ∈ gw_l := gw_in (List.mem_of_getElem? (i := 674) (by decide +kernel)) rfl
theorem gm_L99 : Cond.methodLink "BindingBenchLaw" 99 yM_part ∈ gw_l := gw_in (List.mem_of_getElem? (i := 675) (by decide +kernel)) rfl
theorem gi_M_part : Cond.instanceMethod yM_part ∈ gw_l := gw_in (List.mem_of_getElem? (i := 676) (by decide +kernel)) rfl
theorem gs_M_M_part : Cond.selects "BindingBenchModel" yM_part yM_part ∈ gw_l := gw_in (List.mem_of_getElem? (i := 677) (by decide +kernel)) rfl
theorem gc_M_part : Cond.code yM_part cM_part 5 none ∈ gw_l := gw_in (List.mem_of_getElem? (i := 678) (by decide +kernel)) rfl
theorem gm_M118 : Cond.methodLink "BindingBenchModel" 118 yM_end ∈ gw_l := gw_in (List.mem_of_getElem? (i := 679) (by decide +kernel)) rfl
theorem gt_M_end : Cond.static yM_end ∈ gw_l := gw_in (List.mem_of_getElem? (i := 680) (by decide +kernel)) rfl
theorem gc_M_end : Cond.code yM_end cM_end 4 (some .int) ∈ gw_l := gw_in (List.mem_of_getElem? (i := 681) (by decide +kernel)) rfl
theorem gm_L103 : Cond.methodLink "BindingBenchLaw" 103 yM_step ∈ gw_l := gw_in (List.mem_of_getElem? (i := 682) (by decide +kernel)) rfl
theorem gi_M_step : Cond.instanceMethod yM_step ∈ gw_l := gw_in (List.mem_of_getElem? (i := 683) (by decide +kernel)) rfl
theorem gs_M_M_step : Cond.selects "BindingBenchModel" yM_step yM_step ∈ gw_l := gw_in (List.mem_of_getElem? (i := 684) (by decide +kernel)) rfl
theorem gc_M_step : Cond.code yM_step cM_step 4 (some .boolean) ∈ gw_l := gw_in (List.mem_of_getElem? (i := 685) (by decide +kernel)) rfl
theorem gm_M124 : Cond.methodLink "BindingBenchModel" 124 yM_begins ∈ gw_l := gw_in (List.mem_of_getElem? (i := 686) (by decide +kernel)) rfl
theorem gi_M_begins : Cond.instanceMethod yM_begins ∈ gw_l := gw_in (List.mem_of_getElem? (i := 688) (by decide +kernel)) rfl
theorem gc_M_begins : Cond.code yM_begins cM_begins 2 none ∈ gw_l := gw_in (List.mem_of_getElem? (i := 689) (by decide +kernel)) rfl
theorem gm_M127 : Cond.methodLink "BindingBenchModel" 127 yM_first ∈ gw_l := gw_in (List.mem_of_getElem? (i := 690) (by decide +kernel)) rfl
theorem gi_M_first : Cond.instanceMethod yM_first ∈ gw_l := gw_in (List.mem_of_getElem? (i := 692) (by decide +kernel)) rfl
theorem gc_M_first : Cond.code yM_first cM_first 2 (some .int) ∈ gw_l := gw_in (List.mem_of_getElem? (i := 693) (by decide +kernel)) rfl
theorem gm_M121 : Cond.methodLink "BindingBenchModel" 121 yM_isStep ∈ gw_l := gw_in (List.mem_of_getElem? (i := 694) (by decide +kernel)) rfl
theorem gi_M_isStep : Cond.instanceMethod yM_isStep ∈ gw_l := gw_in (List.mem_of_getElem? (i := 696) (by decide +kernel)) rfl
theorem gc_M_isStep : Cond.code yM_isStep cM_isStep 2 (some .boolean) ∈ gw_l := gw_in (List.mem_of_getElem? (i := 697) (by decide +kernel)) rfl
theorem gm_M131 : Cond.methodLink "BindingBenchModel" 131 yM_stepped ∈ gw_l := gw_in (List.mem_of_getElem? (i := 698) (by decide +kernel)) rfl
theorem gi_M_stepped : Cond.instanceMethod yM_stepped ∈ gw_l := gw_in (List.mem_of_getElem? (i := 700) (by decide +kernel)) rfl
theorem gc_M_stepped : Cond.code yM_stepped cM_stepped 5 (some .boolean) ∈ gw_l := gw_in (List.mem_of_getElem? (i := 701) (by decide +kernel)) rfl
theorem gm_M134 : Cond.methodLink "BindingBenchModel" 134 yM_keepNow ∈ gw_l := gw_in (List.mem_of_getElem? (i := 702) (by decide +kernel)) rfl
theorem gi_M_keepNow : Cond.instanceMethod yM_keepNow ∈ gw_l := gw_in (List.mem_of_getElem? (i := 704) (by decide +kernel)) rfl
theorem gc_M_keepNow : Cond.code yM_keepNow cM_keepNow 2 none ∈ gw_l := gw_in (List.mem_of_getElem? (i := 705) (by decide +kernel)) rfl
theorem gm_L106 : Cond.methodLink "BindingBenchLaw" 106 yM_head ∈ gw_l := gw_in (List.mem_of_getElem? (i := 706) (by decide +kernel)) rfl
theorem gi_M_head : Cond.instanceMethod yM_head ∈ gw_l := gw_in (List.mem_of_getElem? (i := 707) (by decide +kernel)) rfl
theorem gs_M_M_head : Cond.selects "BindingBenchModel" yM_head yM_head ∈ gw_l := gw_in (List.mem_of_getElem? (i := 708) (by decide +kernel)) rfl
theorem gc_M_head : Cond.code yM_head cM_head 3 (some .int) ∈ gw_l := gw_in (List.mem_of_getElem? (i := 709) (by decide +kernel)) rfl
theorem gm_M140 : Cond.methodLink "BindingBenchModel" 140 yM_all ∈ gw_l := gw_in (List.mem_of_getElem? (i := 710) (by decide +kernel)) rfl
theorem gi_M_all : Cond.instanceMethod yM_all ∈ gw_l := gw_in (List.mem_of_getElem? (i := 712) (by decide +kernel)) rfl
theorem gc_M_all : Cond.code yM_all cM_all 6 (some .int) ∈ gw_l := gw_in (List.mem_of_getElem? (i := 713) (by decide +kernel)) rfl
theorem gm_M137 : Cond.methodLink "BindingBenchModel" 137 yM_atHead ∈ gw_l := gw_in (List.mem_of_getElem? (i := 714) (by decide +kernel)) rfl
theorem gi_M_atHead : Cond.instanceMethod yM_atHead ∈ gw_l := gw_in (List.mem_of_getElem? (i := 716) (by decide +kernel)) rfl
theorem gc_M_atHead : Cond.code yM_atHead cM_atHead 2 (some .int) ∈ gw_l := gw_in (List.mem_of_getElem? (i := 717) (by decide +kernel)) rfl
theorem gm_L109 : Cond.methodLink "BindingBenchLaw" 109 yM_normal ∈ gw_l := gw_in (List.mem_of_getElem? (i := 718) (by decide +kernel)) rfl
theorem gi_M_normal : Cond.instanceMethod yM_normal ∈ gw_l := gw_in (List.mem_of_getElem? (i := 719) (by decide +kernel)) rfl
theorem gs_M_M_normal : Cond.selects "BindingBenchModel" yM_normal yM_normal ∈ gw_l := gw_in (List.mem_of_getElem? (i := 720) (by decide +kernel)) rfl
theorem gc_M_normal : Cond.code yM_normal cM_normal 3 (some .int) ∈ gw_l := gw_in (List.mem_of_getElem? (i := 721) (by decide +kernel)) rfl
theorem gm_L112 : Cond.methodLink "BindingBenchLaw" 112 yM_same ∈ gw_l := gw_in (List.mem_of_getElem? (i := 722) (by decide +kernel)) rfl
theorem gi_M_same : Cond.instanceMethod yM_same ∈ gw_l := gw_in (List.mem_of_getElem? (i := 723) (by decide +kernel)) rfl
theorem gs_M_M_same : Cond.selects "BindingBenchModel" yM_same yM_same ∈ gw_l := gw_in (List.mem_of_getElem? (i := 724) (by decide +kernel)) rfl
theorem gc_M_same : Cond.code yM_same cM_same 4 (some .boolean) ∈ gw_l := gw_in (List.mem_of_getElem? (i := 725) (by decide +kernel)) rfl
theorem gm_L115 : Cond.methodLink "BindingBenchLaw" 115 yM_about ∈ gw_l := gw_in (List.mem_of_getElem? (i := 726) (by decide +kernel)) rfl
theorem gi_M_about : Cond.instanceMethod yM_about ∈ gw_l := gw_in (List.mem_of_getElem? (i := 727) (by decide +kernel)) rfl
theorem gs_M_M_about : Cond.selects "BindingBenchModel" yM_about yM_about ∈ gw_l := gw_in (List.mem_of_getElem? (i := 728) (by decide +kernel)) rfl
theorem gc_M_about : Cond.code yM_about cM_about 5 (some .int) ∈ gw_l := gw_in (List.mem_of_getElem? (i := 729) (by decide +kernel)) rfl
theorem gm_M144 : Cond.methodLink "BindingBenchModel" 144 yM_places ∈ gw_l := gw_in (List.mem_of_getElem? (i := 730) (by decide +kernel)) rfl
theorem gi_M_places : Cond.instanceMethod yM_places ∈ gw_l := gw_in (List.mem_of_getElem? (i := 732) (by decide +kernel)) rfl
theorem gc_M_places : Cond.code yM_places cM_places 5 (some .int) ∈ gw_l := gw_in (List.mem_of_getElem? (i := 733) (by decide +kernel)) rfl
theorem gm_L118 : Cond.methodLink "BindingBenchLaw" 118 yM_has ∈ gw_l := gw_in (List.mem_of_getElem? (i := 734) (by decide +kernel)) rfl
theorem gi_M_has : Cond.instanceMethod yM_has ∈ gw_l := gw_in (List.mem_of_getElem? (i := 735) (by decide +kernel)) rfl
theorem gs_M_M_has : Cond.selects "BindingBenchModel" yM_has yM_has ∈ gw_l := gw_in (List.mem_of_getElem? (i := 736) (by decide +kernel)) rfl
theorem gc_M_has : Cond.code yM_has cM_has 3 (some .int) ∈ gw_l := gw_in (List.mem_of_getElem? (i := 737) (by decide +kernel)) rfl
theorem gm_L122 : Cond.methodLink "BindingBenchLaw" 122 yM_write ∈ gw_l := gw_in (List.mem_of_getElem? (i := 738) (by decide +kernel)) rfl
theorem gi_M_write : Cond.instanceMethod yM_write ∈ gw_l := gw_in (List.mem_of_getElem? (i := 739) (by decide +kernel)) rfl
theorem gs_M_M_write : Cond.selects "BindingBenchModel" yM_write yM_write ∈ gw_l := gw_in (List.mem_of_getElem? (i := 740) (by decide +kernel)) rfl
theorem gc_M_write : Cond.code yM_write cM_write 2 (some .int) ∈ gw_l := gw_in (List.mem_of_getElem? (i := 741) (by decide +kernel)) rfl
theorem gm_M150 : Cond.methodLink "BindingBenchModel" 150 yM_written ∈ gw_l := gw_in (List.mem_of_getElem? (i := 742) (by decide +kernel)) rfl
theorem gi_M_written : Cond.instanceMethod yM_written ∈ gw_l := gw_in (List.mem_of_getElem? (i := 744) (by decide +kernel)) rfl
theorem gc_M_written : Cond.code yM_written cM_written 7 (some .int) ∈ gw_l := gw_in (List.mem_of_getElem? (i := 745) (by decide +kernel)) rfl
theorem gm_M147 : Cond.methodLink "BindingBenchModel" 147 yM_say ∈ gw_l := gw_in (List.mem_of_getElem? (i := 746) (by decide +kernel)) rfl
theorem gi_M_say : Cond.instanceMethod yM_say ∈ gw_l := gw_in (List.mem_of_getElem? (i := 748) (by decide +kernel)) rfl
theorem gc_M_say : Cond.code yM_say cM_say 2 none ∈ gw_l := gw_in (List.mem_of_getElem? (i := 749) (by decide +kernel)) rfl
theorem gm_L125 : Cond.methodLink "BindingBenchLaw" 125 yM_out ∈ gw_l := gw_in (List.mem_of_getElem? (i := 750) (by decide +kernel)) rfl
theorem gi_M_out : Cond.instanceMethod yM_out ∈ gw_l := gw_in (List.mem_of_getElem? (i := 751) (by decide +kernel)) rfl
theorem gs_M_M_out : Cond.selects "BindingBenchModel" yM_out yM_out ∈ gw_l := gw_in (List.mem_of_getElem? (i := 752) (by decide +kernel)) rfl
theorem gc_M_out : Cond.code yM_out cM_out 2 (some .int) ∈ gw_l := gw_in (List.mem_of_getElem? (i := 753) (by decide +kernel)) rfl
theorem ga_long : Cond.arrayClass .long ∈ gw_l := gw_in (List.mem_of_getElem? (i := 754) (by decide +kernel)) rfl
theorem gs_B_B_register : Cond.selects "BindingBench" yB_register yB_register ∈ gw_l := gw_sel (q := (yB_register, 3)) (by decide +kernel) rfl
theorem gs_S_S_checked : Cond.selects "BindingBench$Workshop" yS_checked yS_checked ∈ gw_l := gw_sel (q := (yS_checked, 5)) (by decide +kernel) rfl
theorem gs_S_S_isTooDeep : Cond.selects "BindingBench$Workshop" yS_isTooDeep yS_isTooDeep ∈ gw_l := gw_sel (q := (yS_isTooDeep, 5)) (by decide +kernel) rfl
theorem gs_T_T_reserve : Cond.selects "BindingBench$Term" yT_reserve yT_reserve ∈ gw_l := gw_sel (q := (yT_reserve, 2)) (by decide +kernel) rfl
theorem gs_S_S_addFilled : Cond.selects "BindingBench$Workshop" yS_addFilled yS_addFilled ∈ gw_l := gw_sel (q := (yS_addFilled, 5)) (by decide +kernel) rfl
theorem gs_S_S_addRaised : Cond.selects "BindingBench$Workshop" yS_addRaised yS_addRaised ∈ gw_l := gw_sel (q := (yS_addRaised, 5)) (by decide +kernel) rfl
theorem gs_T_T_isRedex : Cond.selects "BindingBench$Term" yT_isRedex yT_isRedex ∈ gw_l := gw_sel (q := (yT_isRedex, 2)) (by decide +kernel) rfl
theorem gs_X_X_add : Cond.selects "BindingBench$Text" yX_add yX_add ∈ gw_l := gw_sel (q := (yX_add, 3)) (by decide +kernel) rfl
theorem gs_X_X_addLeaf : Cond.selects "BindingBench$Text" yX_addLeaf yX_addLeaf ∈ gw_l := gw_sel (q := (yX_addLeaf, 3)) (by decide +kernel) rfl
theorem gs_M_M_none : Cond.selects "BindingBenchModel" yM_none yM_none ∈ gw_l := gw_sel (q := (yM_none, 15)) (by decide +kernel) rfl
theorem gs_M_M_refuse : Cond.selects "BindingBenchModel" yM_refuse yM_refuse ∈ gw_l := gw_sel (q := (yM_refuse, 15)) (by decide +kernel) rfl
theorem gs_M_M_begin : Cond.selects "BindingBenchModel" yM_begin yM_begin ∈ gw_l := gw_sel (q := (yM_begin, 15)) (by decide +kernel) rfl
theorem gs_M_M_add : Cond.selects "BindingBenchModel" yM_add yM_add ∈ gw_l := gw_sel (q := (yM_add, 15)) (by decide +kernel) rfl
theorem gs_M_M_keep : Cond.selects "BindingBenchModel" yM_keep yM_keep ∈ gw_l := gw_sel (q := (yM_keep, 15)) (by decide +kernel) rfl
theorem gs_M_M_add2 : Cond.selects "BindingBenchModel" yM_add2 yM_add2 ∈ gw_l := gw_sel (q := (yM_add2, 15)) (by decide +kernel) rfl
theorem gs_M_M_whole : Cond.selects "BindingBenchModel" yM_whole yM_whole ∈ gw_l := gw_sel (q := (yM_whole, 15)) (by decide +kernel) rfl
theorem gs_M_M_depth : Cond.selects "BindingBenchModel" yM_depth yM_depth ∈ gw_l := gw_sel (q := (yM_depth, 15)) (by decide +kernel) rfl
theorem gs_M_M_renamed : Cond.selects "BindingBenchModel" yM_renamed yM_renamed ∈ gw_l := gw_sel (q := (yM_renamed, 15)) (by decide +kernel) rfl
theorem gs_M_M_rename : Cond.selects "BindingBenchModel" yM_rename yM_rename ∈ gw_l := gw_sel (q := (yM_rename, 15)) (by decide +kernel) rfl
theorem gs_M_M_add3 : Cond.selects "BindingBenchModel" yM_add3 yM_add3 ∈ gw_l := gw_sel (q := (yM_add3, 15)) (by decide +kernel) rfl
theorem gs_M_M_begins : Cond.selects "BindingBenchModel" yM_begins yM_begins ∈ gw_l := gw_sel (q := (yM_begins, 15)) (by decide +kernel) rfl
theorem gs_M_M_first : Cond.selects "BindingBenchModel" yM_first yM_first ∈ gw_l := gw_sel (q := (yM_first, 15)) (by decide +kernel) rfl
theorem gs_M_M_isStep : Cond.selects "BindingBenchModel" yM_isStep yM_isStep ∈ gw_l := gw_sel (q := (yM_isStep, 15)) (by decide +kernel) rfl
theorem gs_M_M_stepped : Cond.selects "BindingBenchModel" yM_stepped yM_stepped ∈ gw_l := gw_sel (q := (yM_stepped, 15)) (by decide +kernel) rfl
theorem gs_M_M_keepNow : Cond.selects "BindingBenchModel" yM_keepNow yM_keepNow ∈ gw_l := gw_sel (q := (yM_keepNow, 15)) (by decide +kernel) rfl
theorem gs_M_M_all : Cond.selects "BindingBenchModel" yM_all yM_all ∈ gw_l := gw_sel (q := (yM_all, 15)) (by decide +kernel) rfl
theorem gs_M_M_atHead : Cond.selects "BindingBenchModel" yM_atHead yM_atHead ∈ gw_l := gw_sel (q := (yM_atHead, 15)) (by decide +kernel) rfl
theorem gs_M_M_places : Cond.selects "BindingBenchModel" yM_places yM_places ∈ gw_l := gw_sel (q := (yM_places, 15)) (by decide +kernel) rfl
theorem gs_M_M_written : Cond.selects "BindingBenchModel" yM_written yM_written ∈ gw_l := gw_sel (q := (yM_written, 15)) (by decide +kernel) rfl
theorem gs_M_M_say : Cond.selects "BindingBenchModel" yM_say yM_say ∈ gw_l := gw_sel (q := (yM_say, 15)) (by decide +kernel) rfl
theorem gu_T : ∀ w ∈ u_ws nm_T tf_T 2, w ∈ gw_l := by
  show ∀ w ∈ [Cond.lays "BindingBench$Term" "BindingBench$Term" "cells" "[I", Cond.lays "BindingBench$Term" "BindingBench$Term" "size" "I"], w ∈ gw_l
  simp only [List.forall_mem_cons]
  exact ⟨gl_T_cells, gl_T_size, fun _ h => nomatch h⟩
theorem gu_X : ∀ w ∈ u_ws nm_X tf_X 3, w ∈ gw_l := by
  show ∀ w ∈ [Cond.lays "BindingBench$Text" "BindingBench$Text" "bytes" "[B", Cond.lays "BindingBench$Text" "BindingBench$Text" "length" "I", Cond.laysFinal "BindingBench$Text" "BindingBench$Text" "brackets" "LBindingBench$Walk;"], w ∈ gw_l
  simp only [List.forall_mem_cons]
  exact ⟨gl_X_bytes, gl_X_length, gl_X_brackets, fun _ h => nomatch h⟩
theorem gu_W : ∀ w ∈ u_ws nm_W tf_W 5, w ∈ gw_l := by
  show ∀ w ∈ [Cond.laysFinal "BindingBench$Walk" "BindingBench$Walk" "forApplied" "I", Cond.laysFinal "BindingBench$Walk" "BindingBench$Walk" "forFunction" "I", Cond.laysFinal "BindingBench$Walk" "BindingBench$Walk" "waiting" "[I", Cond.lays "BindingBench$Walk" "BindingBench$Walk" "height" "I", Cond.lays "BindingBench$Walk" "BindingBench$Walk" "count" "I"], w ∈ gw_l
  simp only [List.forall_mem_cons]
  exact ⟨gl_W_forApplied, gl_W_forFunction, gl_W_waiting, gl_W_height, gl_W_count, fun _ h => nomatch h⟩
theorem gu_S : ∀ w ∈ u_ws nm_S tf_S 5, w ∈ gw_l := by
  show ∀ w ∈ [Cond.lays "BindingBench$Workshop" "BindingBench$Workshop" "made" "LBindingBench$Term;", Cond.lays "BindingBench$Workshop" "BindingBench$Workshop" "spare" "LBindingBench$Term;", Cond.laysFinal "BindingBench$Workshop" "BindingBench$Workshop" "levels" "LBindingBench$Walk;", Cond.laysFinal "BindingBench$Workshop" "BindingBench$Workshop" "binders" "LBindingBench$Walk;", Cond.laysFinal "BindingBench$Workshop" "BindingBench$Workshop" "innerBinders" "LBindingBench$Walk;"], w ∈ gw_l
  simp only [List.forall_mem_cons]
  exact ⟨gl_S_made, gl_S_spare, gl_S_levels, gl_S_binders, gl_S_innerBinders, fun _ h => nomatch h⟩
theorem gu_B : ∀ w ∈ u_ws nm_B tf_B 3, w ∈ gw_l := by
  show ∀ w ∈ [Cond.laysFinal "BindingBench" "BindingBench" "registers" "[LBindingBench$Term;", Cond.laysFinal "BindingBench" "BindingBench" "workshop" "LBindingBench$Workshop;", Cond.laysFinal "BindingBench" "BindingBench" "text" "LBindingBench$Text;"], w ∈ gw_l
  simp only [List.forall_mem_cons]
  exact ⟨gl_B_registers, gl_B_workshop, gl_B_text, fun _ h => nomatch h⟩
theorem gu_M : ∀ w ∈ u_ws nm_M tf_M 15, w ∈ gw_l := by
  show ∀ w ∈ [Cond.lays "BindingBenchModel" "BindingBenchModel" "thrown" "I", Cond.laysFinal "BindingBenchModel" "BindingBenchModel" "register" "[[I", Cond.laysFinal "BindingBenchModel" "BindingBenchModel" "size" "[I", Cond.laysFinal "BindingBenchModel" "BindingBenchModel" "made" "[I", Cond.laysFinal "BindingBenchModel" "BindingBenchModel" "work" "[I", Cond.laysFinal "BindingBenchModel" "BindingBenchModel" "now" "[I", Cond.lays "BindingBenchModel" "BindingBenchModel" "madeSize" "I", Cond.lays "BindingBenchModel" "BindingBenchModel" "nowSize" "I", Cond.lays "BindingBenchModel" "BindingBenchModel" "beyond" "Z", Cond.laysFinal "BindingBenchModel" "BindingBenchModel" "out" "[B", Cond.lays "BindingBenchModel" "BindingBenchModel" "outSize" "I", Cond.laysFinal "BindingBenchModel" "BindingBenchModel" "open" "[I", Cond.lays "BindingBenchModel" "BindingBenchModel" "at" "I", Cond.lays "BindingBenchModel" "BindingBenchModel" "named" "I", Cond.laysFinal "BindingBenchModel" "BindingBenchModel" "names" "[I"], w ∈ gw_l
  simp only [List.forall_mem_cons]
  exact ⟨gl_M_thrown, gl_M_register, gl_M_size, gl_M_made, gl_M_work, gl_M_now, gl_M_madeSize, gl_M_nowSize, gl_M_beyond, gl_M_out, gl_M_outSize, gl_M_open, gl_M_at, gl_M_named, gl_M_names, fun _ h => nomatch h⟩
end
section
theorem dT_init_0 : decode cT_init 0 = .ok (.aload_n 0, 1) := by decide +kernel
theorem dT_init_1 : decode cT_init 1 = .ok (.invokespecial 3, 3) := by decide +kernel
theorem dT_init_4 : decode cT_init 4 = .ok (.aload_n 0, 1) := by decide +kernel
theorem dT_init_5 : decode cT_init 5 = .ok (.iload_n 1, 1) := by decide +kernel
theorem dT_init_6 : decode cT_init 6 = .ok (.newarray .int, 2) := by decide +kernel
theorem dT_init_8 : decode cT_init 8 = .ok (.putfield 9, 3) := by decide +kernel
theorem dT_init_11 : decode cT_init 11 = .ok (.aload_n 0, 1) := by decide +kernel
theorem dT_init_12 : decode cT_init 12 = .ok (.iconst 1, 1) := by decide +kernel
theorem dT_init_13 : decode cT_init 13 = .ok (.putfield 15, 3) := by decide +kernel
theorem dT_init_16 : decode cT_init 16 = .ok (.return_, 1) := by decide +kernel
theorem dT_first_0 : decode cT_first 0 = .ok (.aload_n 0, 1) := by decide +kernel
theorem dT_first_1 : decode cT_first 1 = .ok (.getfield 9, 3) := by decide +kernel
theorem dT_first_4 : decode cT_first 4 = .ok (.iconst 0, 1) := by decide +kernel
theorem dT_first_5 : decode cT_first 5 = .ok (.iaload, 1) := by decide +kernel
theorem dT_first_6 : decode cT_first 6 = .ok (.ireturn, 1) := by decide +kernel
theorem dT_becomeFree_0 : decode cT_becomeFree 0 = .ok (.aload_n 0, 1) := by decide +kernel
theorem dT_becomeFree_1 : decode cT_becomeFree 1 = .ok (.getfield 9, 3) := by decide +kernel
theorem dT_becomeFree_4 : decode cT_becomeFree 4 = .ok (.iconst 0, 1) := by decide +kernel
theorem dT_becomeFree_5 : decode cT_becomeFree 5 = .ok (.iload_n 1, 1) := by decide +kernel
theorem dT_becomeFree_6 : decode cT_becomeFree 6 = .ok (.iastore, 1) := by decide +kernel
theorem dT_becomeFree_7 : decode cT_becomeFree 7 = .ok (.aload_n 0, 1) := by decide +kernel
theorem dT_becomeFree_8 : decode cT_becomeFree 8 = .ok (.iconst 1, 1) := by decide +kernel
theorem dT_becomeFree_9 : decode cT_becomeFree 9 = .ok (.putfield 15, 3) := by decide +kernel
theorem dT_becomeFree_12 : decode cT_becomeFree 12 = .ok (.return_, 1) := by decide +kernel
theorem dT_become_0 : decode cT_become 0 = .ok (.aload_n 0, 1) := by decide +kernel
theorem dT_become_1 : decode cT_become 1 = .ok (.aload_n 1, 1) := by decide +kernel
theorem dT_become_2 : decode cT_become 2 = .ok (.getfield 15, 3) := by decide +kernel
theorem dT_become_5 : decode cT_become 5 = .ok (.invokevirtual 19, 3) := by decide +kernel
theorem dT_become_8 : decode cT_become 8 = .ok (.aload_n 1, 1) := by decide +kernel
theorem dT_become_9 : decode cT_become 9 = .ok (.getfield 9, 3) := by decide +kernel
theorem dT_become_12 : decode cT_become 12 = .ok (.iconst 0, 1) := by decide +kernel
theorem dT_become_13 : decode cT_become 13 = .ok (.aload_n 0, 1) := by decide +kernel
theorem dT_become_14 : decode cT_become 14 = .ok (.getfield 9, 3) := by decide +kernel
theorem dT_become_17 : decode cT_become 17 = .ok (.iconst 0, 1) := by decide +kernel
theorem dT_become_18 : decode cT_become 18 = .ok (.aload_n 1, 1) := by decide +kernel
theorem dT_become_19 : decode cT_become 19 = .ok (.getfield 15, 3) := by decide +kernel
theorem dT_become_22 : decode cT_become 22 = .ok (.invokestatic 23, 3) := by decide +kernel
theorem dT_become_25 : decode cT_become 25 = .ok (.aload_n 0, 1) := by decide +kernel
theorem dT_become_26 : decode cT_become 26 = .ok (.aload_n 1, 1) := by decide +kernel
theorem dT_become_27 : decode cT_become 27 = .ok (.getfield 15, 3) := by decide +kernel
theorem dT_become_30 : decode cT_become 30 = .ok (.putfield 15, 3) := by decide +kernel
theorem dT_become_33 : decode cT_become 33 = .ok (.aload_n 0, 1) := by decide +kernel
theorem dT_become_34 : decode cT_become 34 = .ok (.getfield 15, 3) := by decide +kernel
theorem dT_become_37 : decode cT_become 37 = .ok (.ireturn, 1) := by decide +kernel
theorem dT_reserve_0 : decode cT_reserve 0 = .ok (.iload_n 1, 1) := by decide +kernel
theorem dT_reserve_1 : decode cT_reserve 1 = .ok (.aload_n 0, 1) := by decide +kernel
theorem dT_reserve_2 : decode cT_reserve 2 = .ok (.getfield 9, 3) := by decide +kernel
theorem dT_reserve_5 : decode cT_reserve 5 = .ok (.arraylength, 1) := by decide +kernel
theorem dT_reserve_6 : decode cT_reserve 6 = .ok (.if_icmp .le 26, 3) := by decide +kernel
theorem dT_reserve_9 : decode cT_reserve 9 = .ok (.aload_n 0, 1) := by decide +kernel
theorem dT_reserve_10 : decode cT_reserve 10 = .ok (.sipush 2000, 3) := by decide +kernel
theorem dT_reserve_13 : decode cT_reserve 13 = .ok (.iload_n 1, 1) := by decide +kernel
theorem dT_reserve_14 : decode cT_reserve 14 = .ok (.iconst 2, 1) := by decide +kernel
theorem dT_reserve_15 : decode cT_reserve 15 = .ok (.aload_n 0, 1) := by decide +kernel
theorem dT_reserve_16 : decode cT_reserve 16 = .ok (.getfield 9, 3) := by decide +kernel
theorem dT_reserve_19 : decode cT_reserve 19 = .ok (.arraylength, 1) := by decide +kernel
theorem dT_reserve_20 : decode cT_reserve 20 = .ok (.imul, 1) := by decide +kernel
theorem dT_reserve_21 : decode cT_reserve 21 = .ok (.invokestatic 29, 3) := by decide +kernel
theorem dT_reserve_24 : decode cT_reserve 24 = .ok (.invokestatic 35, 3) := by decide +kernel
theorem dT_reserve_27 : decode cT_reserve 27 = .ok (.newarray .int, 2) := by decide +kernel
theorem dT_reserve_29 : decode cT_reserve 29 = .ok (.putfield 9, 3) := by decide +kernel
theorem dT_reserve_32 : decode cT_reserve 32 = .ok (.return_, 1) := by decide +kernel
theorem dT_clear_0 : decode cT_clear 0 = .ok (.aload_n 0, 1) := by decide +kernel
theorem dT_clear_1 : decode cT_clear 1 = .ok (.iconst 0, 1) := by decide +kernel
theorem dT_clear_2 : decode cT_clear 2 = .ok (.putfield 15, 3) := by decide +kernel
theorem dT_clear_5 : decode cT_clear 5 = .ok (.return_, 1) := by decide +kernel
theorem dT_add_0 : decode cT_add 0 = .ok (.aload_n 0, 1) := by decide +kernel
theorem dT_add_1 : decode cT_add 1 = .ok (.getfield 15, 3) := by decide +kernel
theorem dT_add_4 : decode cT_add 4 = .ok (.aload_n 0, 1) := by decide +kernel
theorem dT_add_5 : decode cT_add 5 = .ok (.getfield 9, 3) := by decide +kernel
theorem dT_add_8 : decode cT_add 8 = .ok (.arraylength, 1) := by decide +kernel
theorem dT_add_9 : decode cT_add 9 = .ok (.if_icmp .ge 13, 3) := by decide +kernel
theorem dT_add_12 : decode cT_add 12 = .ok (.aload_n 0, 1) := by decide +kernel
theorem dT_add_13 : decode cT_add 13 = .ok (.getfield 9, 3) := by decide +kernel
theorem dT_add_16 : decode cT_add 16 = .ok (.aload_n 0, 1) := by decide +kernel
theorem dT_add_17 : decode cT_add 17 = .ok (.getfield 15, 3) := by decide +kernel
theorem dT_add_20 : decode cT_add 20 = .ok (.iload_n 1, 1) := by decide +kernel
theorem dT_add_21 : decode cT_add 21 = .ok (.iastore, 1) := by decide +kernel
theorem dT_add_22 : decode cT_add 22 = .ok (.aload_n 0, 1) := by decide +kernel
theorem dT_add_23 : decode cT_add 23 = .ok (.dup, 1) := by decide +kernel
theorem dT_add_24 : decode cT_add 24 = .ok (.getfield 15, 3) := by decide +kernel
theorem dT_add_27 : decode cT_add 27 = .ok (.iconst 1, 1) := by decide +kernel
theorem dT_add_28 : decode cT_add 28 = .ok (.iadd, 1) := by decide +kernel
theorem dT_add_29 : decode cT_add 29 = .ok (.putfield 15, 3) := by decide +kernel
theorem dT_add_32 : decode cT_add 32 = .ok (.return_, 1) := by decide +kernel
theorem dT_addAll_0 : decode cT_addAll 0 = .ok (.aload_n 0, 1) := by decide +kernel
theorem dT_addAll_1 : decode cT_addAll 1 = .ok (.iload_n 3, 1) := by decide +kernel
theorem dT_addAll_2 : decode cT_addAll 2 = .ok (.iload_n 2, 1) := by decide +kernel
theorem dT_addAll_3 : decode cT_addAll 3 = .ok (.isub, 1) := by decide +kernel
theorem dT_addAll_4 : decode cT_addAll 4 = .ok (.invokevirtual 38, 3) := by decide +kernel
theorem dT_addAll_7 : decode cT_addAll 7 = .ok (.ifCond .eq 22, 3) := by decide +kernel
theorem dT_addAll_10 : decode cT_addAll 10 = .ok (.aload_n 1, 1) := by decide +kernel
theorem dT_addAll_11 : decode cT_addAll 11 = .ok (.getfield 9, 3) := by decide +kernel
theorem dT_addAll_14 : decode cT_addAll 14 = .ok (.iload_n 2, 1) := by decide +kernel
theorem dT_addAll_15 : decode cT_addAll 15 = .ok (.aload_n 0, 1) := by decide +kernel
theorem dT_addAll_16 : decode cT_addAll 16 = .ok (.getfield 9, 3) := by decide +kernel
theorem dT_addAll_19 : decode cT_addAll 19 = .ok (.aload_n 0, 1) := by decide +kernel
theorem dT_addAll_20 : decode cT_addAll 20 = .ok (.getfield 15, 3) := by decide +kernel
theorem dT_addAll_23 : decode cT_addAll 23 = .ok (.iload_n 3, 1) := by decide +kernel
theorem dT_addAll_24 : decode cT_addAll 24 = .ok (.iload_n 2, 1) := by decide +kernel
theorem dT_addAll_25 : decode cT_addAll 25 = .ok (.isub, 1) := by decide +kernel
theorem dT_addAll_26 : decode cT_addAll 26 = .ok (.invokestatic 23, 3) := by decide +kernel
theorem dT_addAll_29 : decode cT_addAll 29 = .ok (.aload_n 0, 1) := by decide +kernel
theorem dT_addAll_30 : decode cT_addAll 30 = .ok (.dup, 1) := by decide +kernel
theorem dT_addAll_31 : decode cT_addAll 31 = .ok (.getfield 15, 3) := by decide +kernel
theorem dT_addAll_34 : decode cT_addAll 34 = .ok (.iload_n 3, 1) := by decide +kernel
theorem dT_addAll_35 : decode cT_addAll 35 = .ok (.iload_n 2, 1) := by decide +kernel
theorem dT_addAll_36 : decode cT_addAll 36 = .ok (.isub, 1) := by decide +kernel
theorem dT_addAll_37 : decode cT_addAll 37 = .ok (.iadd, 1) := by decide +kernel
theorem dT_addAll_38 : decode cT_addAll 38 = .ok (.putfield 15, 3) := by decide +kernel
theorem dT_addAll_41 : decode cT_addAll 41 = .ok (.return_, 1) := by decide +kernel
theorem dT_takes_0 : decode cT_takes 0 = .ok (.iload_n 1, 1) := by decide +kernel
theorem dT_takes_1 : decode cT_takes 1 = .ok (.aload_n 0, 1) := by decide +kernel
theorem dT_takes_2 : decode cT_takes 2 = .ok (.getfield 9, 3) := by decide +kernel
theorem dT_takes_5 : decode cT_takes 5 = .ok (.arraylength, 1) := by decide +kernel
theorem dT_takes_6 : decode cT_takes 6 = .ok (.aload_n 0, 1) := by decide +kernel
theorem dT_takes_7 : decode cT_takes 7 = .ok (.getfield 15, 3) := by decide +kernel
theorem dT_takes_10 : decode cT_takes 10 = .ok (.isub, 1) := by decide +kernel
theorem dT_takes_11 : decode cT_takes 11 = .ok (.if_icmp .gt 7, 3) := by decide +kernel
theorem dT_takes_14 : decode cT_takes 14 = .ok (.iconst 1, 1) := by decide +kernel
theorem dT_takes_15 : decode cT_takes 15 = .ok (.goto 4, 3) := by decide +kernel
theorem dT_takes_18 : decode cT_takes 18 = .ok (.iconst 0, 1) := by decide +kernel
theorem dT_takes_19 : decode cT_takes 19 = .ok (.ireturn, 1) := by decide +kernel
theorem dT_endOf_0 : decode cT_endOf 0 = .ok (.iconst 1, 1) := by decide +kernel
theorem dT_endOf_1 : decode cT_endOf 1 = .ok (.istore_n 2, 1) := by decide +kernel
theorem dT_endOf_2 : decode cT_endOf 2 = .ok (.iload_n 1, 1) := by decide +kernel
theorem dT_endOf_3 : decode cT_endOf 3 = .ok (.istore_n 3, 1) := by decide +kernel
theorem dT_endOf_4 : decode cT_endOf 4 = .ok (.iload_n 3, 1) := by decide +kernel
theorem dT_endOf_5 : decode cT_endOf 5 = .ok (.aload_n 0, 1) := by decide +kernel
theorem dT_endOf_6 : decode cT_endOf 6 = .ok (.getfield 15, 3) := by decide +kernel
theorem dT_endOf_9 : decode cT_endOf 9 = .ok (.if_icmp .ge 43, 3) := by decide +kernel
theorem dT_endOf_12 : decode cT_endOf 12 = .ok (.iload_n 2, 1) := by decide +kernel
theorem dT_endOf_13 : decode cT_endOf 13 = .ok (.ifCond .le 39, 3) := by decide +kernel
theorem dT_endOf_16 : decode cT_endOf 16 = .ok (.aload_n 0, 1) := by decide +kernel
theorem dT_endOf_17 : decode cT_endOf 17 = .ok (.getfield 9, 3) := by decide +kernel
theorem dT_endOf_20 : decode cT_endOf 20 = .ok (.iload_n 3, 1) := by decide +kernel
theorem dT_endOf_21 : decode cT_endOf 21 = .ok (.iaload, 1) := by decide +kernel
theorem dT_endOf_22 : decode cT_endOf 22 = .ok (.iconst (-1), 1) := by decide +kernel
theorem dT_endOf_23 : decode cT_endOf 23 = .ok (.if_icmp .ne 9, 3) := by decide +kernel
theorem dT_endOf_26 : decode cT_endOf 26 = .ok (.iinc 2 1, 3) := by decide +kernel
theorem dT_endOf_29 : decode cT_endOf 29 = .ok (.goto 17, 3) := by decide +kernel
theorem dT_endOf_32 : decode cT_endOf 32 = .ok (.aload_n 0, 1) := by decide +kernel
theorem dT_endOf_33 : decode cT_endOf 33 = .ok (.getfield 9, 3) := by decide +kernel
theorem dT_endOf_36 : decode cT_endOf 36 = .ok (.iload_n 3, 1) := by decide +kernel
theorem dT_endOf_37 : decode cT_endOf 37 = .ok (.iaload, 1) := by decide +kernel
theorem dT_endOf_38 : decode cT_endOf 38 = .ok (.bipush (-2), 2) := by decide +kernel
theorem dT_endOf_40 : decode cT_endOf 40 = .ok (.if_icmp .eq 6, 3) := by decide +kernel
theorem dT_endOf_43 : decode cT_endOf 43 = .ok (.iinc 2 (-1), 3) := by decide +kernel
theorem dT_endOf_46 : decode cT_endOf 46 = .ok (.iinc 3 1, 3) := by decide +kernel
theorem dT_endOf_49 : decode cT_endOf 49 = .ok (.goto (-45), 3) := by decide +kernel
theorem dT_endOf_52 : decode cT_endOf 52 = .ok (.iload_n 3, 1) := by decide +kernel
theorem dT_endOf_53 : decode cT_endOf 53 = .ok (.ireturn, 1) := by decide +kernel
theorem dT_isRedex_0 : decode cT_isRedex 0 = .ok (.aload_n 0, 1) := by decide +kernel
theorem dT_isRedex_1 : decode cT_isRedex 1 = .ok (.getfield 9, 3) := by decide +kernel
theorem dT_isRedex_4 : decode cT_isRedex 4 = .ok (.iload_n 1, 1) := by decide +kernel
theorem dT_isRedex_5 : decode cT_isRedex 5 = .ok (.iaload, 1) := by decide +kernel
theorem dT_isRedex_6 : decode cT_isRedex 6 = .ok (.iconst (-1), 1) := by decide +kernel
theorem dT_isRedex_7 : decode cT_isRedex 7 = .ok (.if_icmp .ne 20, 3) := by decide +kernel
theorem dT_isRedex_10 : decode cT_isRedex 10 = .ok (.aload_n 0, 1) := by decide +kernel
theorem dT_isRedex_11 : decode cT_isRedex 11 = .ok (.getfield 9, 3) := by decide +kernel
theorem dT_isRedex_14 : decode cT_isRedex 14 = .ok (.iload_n 1, 1) := by decide +kernel
theorem dT_isRedex_15 : decode cT_isRedex 15 = .ok (.iconst 1, 1) := by decide +kernel
theorem dT_isRedex_16 : decode cT_isRedex 16 = .ok (.iadd, 1) := by decide +kernel
theorem dT_isRedex_17 : decode cT_isRedex 17 = .ok (.iaload, 1) := by decide +kernel
theorem dT_isRedex_18 : decode cT_isRedex 18 = .ok (.bipush (-2), 2) := by decide +kernel
theorem dT_isRedex_20 : decode cT_isRedex 20 = .ok (.if_icmp .ne 7, 3) := by decide +kernel
theorem dT_isRedex_23 : decode cT_isRedex 23 = .ok (.iconst 1, 1) := by decide +kernel
theorem dT_isRedex_24 : decode cT_isRedex 24 = .ok (.goto 4, 3) := by decide +kernel
theorem dT_isRedex_27 : decode cT_isRedex 27 = .ok (.iconst 0, 1) := by decide +kernel
theorem dT_isRedex_28 : decode cT_isRedex 28 = .ok (.ireturn, 1) := by decide +kernel
theorem dT_firstRedex_0 : decode cT_firstRedex 0 = .ok (.iload_n 1, 1) := by decide +kernel
theorem dT_firstRedex_1 : decode cT_firstRedex 1 = .ok (.istore_n 2, 1) := by decide +kernel
theorem dT_firstRedex_2 : decode cT_firstRedex 2 = .ok (.iload_n 2, 1) := by decide +kernel
theorem dT_firstRedex_3 : decode cT_firstRedex 3 = .ok (.aload_n 0, 1) := by decide +kernel
theorem dT_firstRedex_4 : decode cT_firstRedex 4 = .ok (.getfield 15, 3) := by decide +kernel
theorem dT_firstRedex_7 : decode cT_firstRedex 7 = .ok (.iconst 1, 1) := by decide +kernel
theorem dT_firstRedex_8 : decode cT_firstRedex 8 = .ok (.isub, 1) := by decide +kernel
theorem dT_firstRedex_9 : decode cT_firstRedex 9 = .ok (.if_icmp .ge 19, 3) := by decide +kernel
theorem dT_firstRedex_12 : decode cT_firstRedex 12 = .ok (.aload_n 0, 1) := by decide +kernel
theorem dT_firstRedex_13 : decode cT_firstRedex 13 = .ok (.iload_n 2, 1) := by decide +kernel
theorem dT_firstRedex_14 : decode cT_firstRedex 14 = .ok (.invokevirtual 42, 3) := by decide +kernel
theorem dT_firstRedex_17 : decode cT_firstRedex 17 = .ok (.ifCond .eq 5, 3) := by decide +kernel
theorem dT_firstRedex_20 : decode cT_firstRedex 20 = .ok (.iload_n 2, 1) := by decide +kernel
theorem dT_firstRedex_21 : decode cT_firstRedex 21 = .ok (.ireturn, 1) := by decide +kernel
theorem dT_firstRedex_22 : decode cT_firstRedex 22 = .ok (.iinc 2 1, 3) := by decide +kernel
theorem dT_firstRedex_25 : decode cT_firstRedex 25 = .ok (.goto (-23), 3) := by decide +kernel
theorem dT_firstRedex_28 : decode cT_firstRedex 28 = .ok (.iconst (-1), 1) := by decide +kernel
theorem dT_firstRedex_29 : decode cT_firstRedex 29 = .ok (.ireturn, 1) := by decide +kernel
theorem dT_headRedex_0 : decode cT_headRedex 0 = .ok (.iconst 0, 1) := by decide +kernel
theorem dT_headRedex_1 : decode cT_headRedex 1 = .ok (.istore_n 1, 1) := by decide +kernel
theorem dT_headRedex_2 : decode cT_headRedex 2 = .ok (.iload_n 1, 1) := by decide +kernel
theorem dT_headRedex_3 : decode cT_headRedex 3 = .ok (.aload_n 0, 1) := by decide +kernel
theorem dT_headRedex_4 : decode cT_headRedex 4 = .ok (.getfield 15, 3) := by decide +kernel
theorem dT_headRedex_7 : decode cT_headRedex 7 = .ok (.iconst 1, 1) := by decide +kernel
theorem dT_headRedex_8 : decode cT_headRedex 8 = .ok (.isub, 1) := by decide +kernel
theorem dT_headRedex_9 : decode cT_headRedex 9 = .ok (.if_icmp .ge 29, 3) := by decide +kernel
theorem dT_headRedex_12 : decode cT_headRedex 12 = .ok (.aload_n 0, 1) := by decide +kernel
theorem dT_headRedex_13 : decode cT_headRedex 13 = .ok (.getfield 9, 3) := by decide +kernel
theorem dT_headRedex_16 : decode cT_headRedex 16 = .ok (.iload_n 1, 1) := by decide +kernel
theorem dT_headRedex_17 : decode cT_headRedex 17 = .ok (.iaload, 1) := by decide +kernel
theorem dT_headRedex_18 : decode cT_headRedex 18 = .ok (.iconst (-1), 1) := by decide +kernel
theorem dT_headRedex_19 : decode cT_headRedex 19 = .ok (.if_icmp .ne 19, 3) := by decide +kernel
theorem dT_headRedex_22 : decode cT_headRedex 22 = .ok (.aload_n 0, 1) := by decide +kernel
theorem dT_headRedex_23 : decode cT_headRedex 23 = .ok (.iload_n 1, 1) := by decide +kernel
theorem dT_headRedex_24 : decode cT_headRedex 24 = .ok (.invokevirtual 42, 3) := by decide +kernel
theorem dT_headRedex_27 : decode cT_headRedex 27 = .ok (.ifCond .eq 5, 3) := by decide +kernel
theorem dT_headRedex_30 : decode cT_headRedex 30 = .ok (.iload_n 1, 1) := by decide +kernel
theorem dT_headRedex_31 : decode cT_headRedex 31 = .ok (.ireturn, 1) := by decide +kernel
theorem dT_headRedex_32 : decode cT_headRedex 32 = .ok (.iinc 1 1, 3) := by decide +kernel
theorem dT_headRedex_35 : decode cT_headRedex 35 = .ok (.goto (-33), 3) := by decide +kernel
theorem dT_headRedex_38 : decode cT_headRedex 38 = .ok (.iconst (-1), 1) := by decide +kernel
theorem dT_headRedex_39 : decode cT_headRedex 39 = .ok (.ireturn, 1) := by decide +kernel
theorem dT_redexes_0 : decode cT_redexes 0 = .ok (.iconst 0, 1) := by decide +kernel
theorem dT_redexes_1 : decode cT_redexes 1 = .ok (.istore_n 1, 1) := by decide +kernel
theorem dT_redexes_2 : decode cT_redexes 2 = .ok (.iconst 0, 1) := by decide +kernel
theorem dT_redexes_3 : decode cT_redexes 3 = .ok (.istore_n 2, 1) := by decide +kernel
theorem dT_redexes_4 : decode cT_redexes 4 = .ok (.iload_n 2, 1) := by decide +kernel
theorem dT_redexes_5 : decode cT_redexes 5 = .ok (.aload_n 0, 1) := by decide +kernel
theorem dT_redexes_6 : decode cT_redexes 6 = .ok (.getfield 15, 3) := by decide +kernel
theorem dT_redexes_9 : decode cT_redexes 9 = .ok (.iconst 1, 1) := by decide +kernel
theorem dT_redexes_10 : decode cT_redexes 10 = .ok (.isub, 1) := by decide +kernel
theorem dT_redexes_11 : decode cT_redexes 11 = .ok (.if_icmp .ge 20, 3) := by decide +kernel
theorem dT_redexes_14 : decode cT_redexes 14 = .ok (.aload_n 0, 1) := by decide +kernel
theorem dT_redexes_15 : decode cT_redexes 15 = .ok (.iload_n 2, 1) := by decide +kernel
theorem dT_redexes_16 : decode cT_redexes 16 = .ok (.invokevirtual 42, 3) := by decide +kernel
theorem dT_redexes_19 : decode cT_redexes 19 = .ok (.ifCond .eq 6, 3) := by decide +kernel
theorem dT_redexes_22 : decode cT_redexes 22 = .ok (.iinc 1 1, 3) := by decide +kernel
theorem dT_redexes_25 : decode cT_redexes 25 = .ok (.iinc 2 1, 3) := by decide +kernel
theorem dT_redexes_28 : decode cT_redexes 28 = .ok (.goto (-24), 3) := by decide +kernel
theorem dT_redexes_31 : decode cT_redexes 31 = .ok (.iload_n 1, 1) := by decide +kernel
theorem dT_redexes_32 : decode cT_redexes 32 = .ok (.ireturn, 1) := by decide +kernel
theorem dT_kind_0 : decode cT_kind 0 = .ok (.aload_n 0, 1) := by decide +kernel
theorem dT_kind_1 : decode cT_kind 1 = .ok (.getfield 9, 3) := by decide +kernel
theorem dT_kind_4 : decode cT_kind 4 = .ok (.iconst 0, 1) := by decide +kernel
theorem dT_kind_5 : decode cT_kind 5 = .ok (.iaload, 1) := by decide +kernel
theorem dT_kind_6 : decode cT_kind 6 = .ok (.iconst (-1), 1) := by decide +kernel
theorem dT_kind_7 : decode cT_kind 7 = .ok (.if_icmp .ne 5, 3) := by decide +kernel
theorem dT_kind_10 : decode cT_kind 10 = .ok (.iconst 1, 1) := by decide +kernel
theorem dT_kind_11 : decode cT_kind 11 = .ok (.ireturn, 1) := by decide +kernel
theorem dT_kind_12 : decode cT_kind 12 = .ok (.aload_n 0, 1) := by decide +kernel
theorem dT_kind_13 : decode cT_kind 13 = .ok (.getfield 9, 3) := by decide +kernel
theorem dT_kind_16 : decode cT_kind 16 = .ok (.iconst 0, 1) := by decide +kernel
theorem dT_kind_17 : decode cT_kind 17 = .ok (.iaload, 1) := by decide +kernel
theorem dT_kind_18 : decode cT_kind 18 = .ok (.bipush (-2), 2) := by decide +kernel
theorem dT_kind_20 : decode cT_kind 20 = .ok (.if_icmp .ne 7, 3) := by decide +kernel
theorem dT_kind_23 : decode cT_kind 23 = .ok (.iconst 2, 1) := by decide +kernel
theorem dT_kind_24 : decode cT_kind 24 = .ok (.goto 4, 3) := by decide +kernel
theorem dT_kind_27 : decode cT_kind 27 = .ok (.iconst 0, 1) := by decide +kernel
theorem dT_kind_28 : decode cT_kind 28 = .ok (.ireturn, 1) := by decide +kernel
theorem dT_places_0 : decode cT_places 0 = .ok (.iconst 0, 1) := by decide +kernel
theorem dT_places_1 : decode cT_places 1 = .ok (.istore_n 2, 1) := by decide +kernel
theorem dT_places_2 : decode cT_places 2 = .ok (.iconst 0, 1) := by decide +kernel
theorem dT_places_3 : decode cT_places 3 = .ok (.istore_n 3, 1) := by decide +kernel
theorem dT_places_4 : decode cT_places 4 = .ok (.iload_n 3, 1) := by decide +kernel
theorem dT_places_5 : decode cT_places 5 = .ok (.aload_n 0, 1) := by decide +kernel
theorem dT_places_6 : decode cT_places 6 = .ok (.getfield 15, 3) := by decide +kernel
theorem dT_places_9 : decode cT_places 9 = .ok (.if_icmp .ge 22, 3) := by decide +kernel
theorem dT_places_12 : decode cT_places 12 = .ok (.aload_n 0, 1) := by decide +kernel
theorem dT_places_13 : decode cT_places 13 = .ok (.getfield 9, 3) := by decide +kernel
theorem dT_places_16 : decode cT_places 16 = .ok (.iload_n 3, 1) := by decide +kernel
theorem dT_places_17 : decode cT_places 17 = .ok (.iaload, 1) := by decide +kernel
theorem dT_places_18 : decode cT_places 18 = .ok (.iload_n 1, 1) := by decide +kernel
theorem dT_places_19 : decode cT_places 19 = .ok (.if_icmp .ne 6, 3) := by decide +kernel
theorem dT_places_22 : decode cT_places 22 = .ok (.iinc 2 1, 3) := by decide +kernel
theorem dT_places_25 : decode cT_places 25 = .ok (.iinc 3 1, 3) := by decide +kernel
theorem dT_places_28 : decode cT_places 28 = .ok (.goto (-24), 3) := by decide +kernel
theorem dT_places_31 : decode cT_places 31 = .ok (.iload_n 2, 1) := by decide +kernel
theorem dT_places_32 : decode cT_places 32 = .ok (.ireturn, 1) := by decide +kernel
theorem dT_differentFree_0 : decode cT_differentFree 0 = .ok (.lconst 0, 1) := by decide +kernel
theorem dT_differentFree_1 : decode cT_differentFree 1 = .ok (.lstore_n 1, 1) := by decide +kernel
theorem dT_differentFree_2 : decode cT_differentFree 2 = .ok (.lconst 0, 1) := by decide +kernel
theorem dT_differentFree_3 : decode cT_differentFree 3 = .ok (.lstore_n 3, 1) := by decide +kernel
theorem dT_differentFree_4 : decode cT_differentFree 4 = .ok (.iconst 0, 1) := by decide +kernel
theorem dT_differentFree_5 : decode cT_differentFree 5 = .ok (.istore 5, 2) := by decide +kernel
theorem dT_differentFree_7 : decode cT_differentFree 7 = .ok (.iload 5, 2) := by decide +kernel
theorem dT_differentFree_9 : decode cT_differentFree 9 = .ok (.aload_n 0, 1) := by decide +kernel
theorem dT_differentFree_10 : decode cT_differentFree 10 = .ok (.getfield 15, 3) := by decide +kernel
theorem dT_differentFree_13 : decode cT_differentFree 13 = .ok (.if_icmp .ge 64, 3) := by decide +kernel
theorem dT_differentFree_16 : decode cT_differentFree 16 = .ok (.aload_n 0, 1) := by decide +kernel
theorem dT_differentFree_17 : decode cT_differentFree 17 = .ok (.getfield 9, 3) := by decide +kernel
theorem dT_differentFree_20 : decode cT_differentFree 20 = .ok (.iload 5, 2) := by decide +kernel
theorem dT_differentFree_22 : decode cT_differentFree 22 = .ok (.iaload, 1) := by decide +kernel
theorem dT_differentFree_23 : decode cT_differentFree 23 = .ok (.istore 6, 2) := by decide +kernel
theorem dT_differentFree_25 : decode cT_differentFree 25 = .ok (.iload 6, 2) := by decide +kernel
theorem dT_differentFree_27 : decode cT_differentFree 27 = .ok (.ifCond .lt 20, 3) := by decide +kernel
theorem dT_differentFree_30 : decode cT_differentFree 30 = .ok (.iload 6, 2) := by decide +kernel
theorem dT_differentFree_32 : decode cT_differentFree 32 = .ok (.bipush 64, 2) := by decide +kernel
theorem dT_differentFree_34 : decode cT_differentFree 34 = .ok (.if_icmp .ge 13, 3) := by decide +kernel
theorem dT_differentFree_37 : decode cT_differentFree 37 = .ok (.lload_n 1, 1) := by decide +kernel
theorem dT_differentFree_38 : decode cT_differentFree 38 = .ok (.lconst 1, 1) := by decide +kernel
theorem dT_differentFree_39 : decode cT_differentFree 39 = .ok (.iload 6, 2) := by decide +kernel
theorem dT_differentFree_41 : decode cT_differentFree 41 = .ok (.lshl, 1) := by decide +kernel
theorem dT_differentFree_42 : decode cT_differentFree 42 = .ok (.lor, 1) := by decide +kernel
theorem dT_differentFree_43 : decode cT_differentFree 43 = .ok (.lstore_n 1, 1) := by decide +kernel
theorem dT_differentFree_44 : decode cT_differentFree 44 = .ok (.goto 27, 3) := by decide +kernel
theorem dT_differentFree_47 : decode cT_differentFree 47 = .ok (.iload 6, 2) := by decide +kernel
theorem dT_differentFree_49 : decode cT_differentFree 49 = .ok (.bipush 64, 2) := by decide +kernel
theorem dT_differentFree_51 : decode cT_differentFree 51 = .ok (.if_icmp .lt 20, 3) := by decide +kernel
theorem dT_differentFree_54 : decode cT_differentFree 54 = .ok (.iload 6, 2) := by decide +kernel
theorem dT_differentFree_56 : decode cT_differentFree 56 = .ok (.bipush 99, 2) := by decide +kernel
theorem dT_differentFree_58 : decode cT_differentFree 58 = .ok (.if_icmp .gt 13, 3) := by decide +kernel
theorem dT_differentFree_61 : decode cT_differentFree 61 = .ok (.lload_n 3, 1) := by decide +kernel
theorem dT_differentFree_62 : decode cT_differentFree 62 = .ok (.lconst 1, 1) := by decide +kernel
theorem dT_differentFree_63 : decode cT_differentFree 63 = .ok (.iload 6, 2) := by decide +kernel
theorem dT_differentFree_65 : decode cT_differentFree 65 = .ok (.bipush 64, 2) := by decide +kernel
theorem dT_differentFree_67 : decode cT_differentFree 67 = .ok (.isub, 1) := by decide +kernel
theorem dT_differentFree_68 : decode cT_differentFree 68 = .ok (.lshl, 1) := by decide +kernel
theorem dT_differentFree_69 : decode cT_differentFree 69 = .ok (.lor, 1) := by decide +kernel
theorem dT_differentFree_70 : decode cT_differentFree 70 = .ok (.lstore_n 3, 1) := by decide +kernel
theorem dT_differentFree_71 : decode cT_differentFree 71 = .ok (.iinc 5 1, 3) := by decide +kernel
theorem dT_differentFree_74 : decode cT_differentFree 74 = .ok (.goto (-67), 3) := by decide +kernel
theorem dT_differentFree_77 : decode cT_differentFree 77 = .ok (.lload_n 1, 1) := by decide +kernel
theorem dT_differentFree_78 : decode cT_differentFree 78 = .ok (.invokestatic 45, 3) := by decide +kernel
theorem dT_differentFree_81 : decode cT_differentFree 81 = .ok (.lload_n 3, 1) := by decide +kernel
theorem dT_differentFree_82 : decode cT_differentFree 82 = .ok (.invokestatic 45, 3) := by decide +kernel
theorem dT_differentFree_85 : decode cT_differentFree 85 = .ok (.iadd, 1) := by decide +kernel
theorem dT_differentFree_86 : decode cT_differentFree 86 = .ok (.ireturn, 1) := by decide +kernel
theorem dT_equalTo_0 : decode cT_equalTo 0 = .ok (.aload_n 0, 1) := by decide +kernel
theorem dT_equalTo_1 : decode cT_equalTo 1 = .ok (.getfield 15, 3) := by decide +kernel
theorem dT_equalTo_4 : decode cT_equalTo 4 = .ok (.aload_n 1, 1) := by decide +kernel
theorem dT_equalTo_5 : decode cT_equalTo 5 = .ok (.getfield 15, 3) := by decide +kernel
theorem dT_equalTo_8 : decode cT_equalTo 8 = .ok (.if_icmp .eq 5, 3) := by decide +kernel
theorem dT_equalTo_11 : decode cT_equalTo 11 = .ok (.iconst 0, 1) := by decide +kernel
theorem dT_equalTo_12 : decode cT_equalTo 12 = .ok (.ireturn, 1) := by decide +kernel
theorem dT_equalTo_13 : decode cT_equalTo 13 = .ok (.iconst 0, 1) := by decide +kernel
theorem dT_equalTo_14 : decode cT_equalTo 14 = .ok (.istore_n 2, 1) := by decide +kernel
theorem dT_equalTo_15 : decode cT_equalTo 15 = .ok (.iload_n 2, 1) := by decide +kernel
theorem dT_equalTo_16 : decode cT_equalTo 16 = .ok (.aload_n 0, 1) := by decide +kernel
theorem dT_equalTo_17 : decode cT_equalTo 17 = .ok (.getfield 15, 3) := by decide +kernel
theorem dT_equalTo_20 : decode cT_equalTo 20 = .ok (.if_icmp .ge 26, 3) := by decide +kernel
theorem dT_equalTo_23 : decode cT_equalTo 23 = .ok (.aload_n 0, 1) := by decide +kernel
theorem dT_equalTo_24 : decode cT_equalTo 24 = .ok (.getfield 9, 3) := by decide +kernel
theorem dT_equalTo_27 : decode cT_equalTo 27 = .ok (.iload_n 2, 1) := by decide +kernel
theorem dT_equalTo_28 : decode cT_equalTo 28 = .ok (.iaload, 1) := by decide +kernel
theorem dT_equalTo_29 : decode cT_equalTo 29 = .ok (.aload_n 1, 1) := by decide +kernel
theorem dT_equalTo_30 : decode cT_equalTo 30 = .ok (.getfield 9, 3) := by decide +kernel
theorem dT_equalTo_33 : decode cT_equalTo 33 = .ok (.iload_n 2, 1) := by decide +kernel
theorem dT_equalTo_34 : decode cT_equalTo 34 = .ok (.iaload, 1) := by decide +kernel
theorem dT_equalTo_35 : decode cT_equalTo 35 = .ok (.if_icmp .eq 5, 3) := by decide +kernel
theorem dT_equalTo_38 : decode cT_equalTo 38 = .ok (.iconst 0, 1) := by decide +kernel
theorem dT_equalTo_39 : decode cT_equalTo 39 = .ok (.ireturn, 1) := by decide +kernel
theorem dT_equalTo_40 : decode cT_equalTo 40 = .ok (.iinc 2 1, 3) := by decide +kernel
theorem dT_equalTo_43 : decode cT_equalTo 43 = .ok (.goto (-28), 3) := by decide +kernel
theorem dT_equalTo_46 : decode cT_equalTo 46 = .ok (.iconst 1, 1) := by decide +kernel
theorem dT_equalTo_47 : decode cT_equalTo 47 = .ok (.ireturn, 1) := by decide +kernel
theorem dW_init_0 : decode cW_init 0 = .ok (.aload_n 0, 1) := by decide +kernel
theorem dW_init_1 : decode cW_init 1 = .ok (.invokespecial 3, 3) := by decide +kernel
theorem dW_init_4 : decode cW_init 4 = .ok (.aload_n 0, 1) := by decide +kernel
theorem dW_init_5 : decode cW_init 5 = .ok (.iload_n 1, 1) := by decide +kernel
theorem dW_init_6 : decode cW_init 6 = .ok (.putfield 9, 3) := by decide +kernel
theorem dW_init_9 : decode cW_init 9 = .ok (.aload_n 0, 1) := by decide +kernel
theorem dW_init_10 : decode cW_init 10 = .ok (.iload_n 2, 1) := by decide +kernel
theorem dW_init_11 : decode cW_init 11 = .ok (.putfield 15, 3) := by decide +kernel
theorem dW_init_14 : decode cW_init 14 = .ok (.aload_n 0, 1) := by decide +kernel
theorem dW_init_15 : decode cW_init 15 = .ok (.sipush 150, 3) := by decide +kernel
theorem dW_init_18 : decode cW_init 18 = .ok (.newarray .int, 2) := by decide +kernel
theorem dW_init_20 : decode cW_init 20 = .ok (.putfield 18, 3) := by decide +kernel
theorem dW_init_23 : decode cW_init 23 = .ok (.return_, 1) := by decide +kernel
theorem dW_start_0 : decode cW_start 0 = .ok (.aload_n 0, 1) := by decide +kernel
theorem dW_start_1 : decode cW_start 1 = .ok (.iconst 0, 1) := by decide +kernel
theorem dW_start_2 : decode cW_start 2 = .ok (.putfield 22, 3) := by decide +kernel
theorem dW_start_5 : decode cW_start 5 = .ok (.aload_n 0, 1) := by decide +kernel
theorem dW_start_6 : decode cW_start 6 = .ok (.iconst 0, 1) := by decide +kernel
theorem dW_start_7 : decode cW_start 7 = .ok (.putfield 25, 3) := by decide +kernel
theorem dW_start_10 : decode cW_start 10 = .ok (.return_, 1) := by decide +kernel
theorem dW_pass_0 : decode cW_pass 0 = .ok (.iload_n 1, 1) := by decide +kernel
theorem dW_pass_1 : decode cW_pass 1 = .ok (.iconst (-1), 1) := by decide +kernel
theorem dW_pass_2 : decode cW_pass 2 = .ok (.if_icmp .ne 54, 3) := by decide +kernel
theorem dW_pass_5 : decode cW_pass 5 = .ok (.aload_n 0, 1) := by decide +kernel
theorem dW_pass_6 : decode cW_pass 6 = .ok (.dup, 1) := by decide +kernel
theorem dW_pass_7 : decode cW_pass 7 = .ok (.getfield 25, 3) := by decide +kernel
theorem dW_pass_10 : decode cW_pass 10 = .ok (.aload_n 0, 1) := by decide +kernel
theorem dW_pass_11 : decode cW_pass 11 = .ok (.getfield 9, 3) := by decide +kernel
theorem dW_pass_14 : decode cW_pass 14 = .ok (.iadd, 1) := by decide +kernel
theorem dW_pass_15 : decode cW_pass 15 = .ok (.putfield 25, 3) := by decide +kernel
theorem dW_pass_18 : decode cW_pass 18 = .ok (.aload_n 0, 1) := by decide +kernel
theorem dW_pass_19 : decode cW_pass 19 = .ok (.getfield 22, 3) := by decide +kernel
theorem dW_pass_22 : decode cW_pass 22 = .ok (.aload_n 0, 1) := by decide +kernel
theorem dW_pass_23 : decode cW_pass 23 = .ok (.getfield 18, 3) := by decide +kernel
theorem dW_pass_26 : decode cW_pass 26 = .ok (.arraylength, 1) := by decide +kernel
theorem dW_pass_27 : decode cW_pass 27 = .ok (.if_icmp .ge 89, 3) := by decide +kernel
theorem dW_pass_30 : decode cW_pass 30 = .ok (.aload_n 0, 1) := by decide +kernel
theorem dW_pass_31 : decode cW_pass 31 = .ok (.getfield 18, 3) := by decide +kernel
theorem dW_pass_34 : decode cW_pass 34 = .ok (.aload_n 0, 1) := by decide +kernel
theorem dW_pass_35 : decode cW_pass 35 = .ok (.getfield 22, 3) := by decide +kernel
theorem dW_pass_38 : decode cW_pass 38 = .ok (.aload_n 0, 1) := by decide +kernel
theorem dW_pass_39 : decode cW_pass 39 = .ok (.getfield 25, 3) := by decide +kernel
theorem dW_pass_42 : decode cW_pass 42 = .ok (.iastore, 1) := by decide +kernel
theorem dW_pass_43 : decode cW_pass 43 = .ok (.aload_n 0, 1) := by decide +kernel
theorem dW_pass_44 : decode cW_pass 44 = .ok (.dup, 1) := by decide +kernel
theorem dW_pass_45 : decode cW_pass 45 = .ok (.getfield 22, 3) := by decide +kernel
theorem dW_pass_48 : decode cW_pass 48 = .ok (.iconst 1, 1) := by decide +kernel
theorem dW_pass_49 : decode cW_pass 49 = .ok (.iadd, 1) := by decide +kernel
theorem dW_pass_50 : decode cW_pass 50 = .ok (.putfield 22, 3) := by decide +kernel
theorem dW_pass_53 : decode cW_pass 53 = .ok (.goto 63, 3) := by decide +kernel
theorem dW_pass_56 : decode cW_pass 56 = .ok (.iload_n 1, 1) := by decide +kernel
theorem dW_pass_57 : decode cW_pass 57 = .ok (.bipush (-2), 2) := by decide +kernel
theorem dW_pass_59 : decode cW_pass 59 = .ok (.if_icmp .ne 19, 3) := by decide +kernel
theorem dW_pass_62 : decode cW_pass 62 = .ok (.aload_n 0, 1) := by decide +kernel
theorem dW_pass_63 : decode cW_pass 63 = .ok (.dup, 1) := by decide +kernel
theorem dW_pass_64 : decode cW_pass 64 = .ok (.getfield 25, 3) := by decide +kernel
theorem dW_pass_67 : decode cW_pass 67 = .ok (.aload_n 0, 1) := by decide +kernel
theorem dW_pass_68 : decode cW_pass 68 = .ok (.getfield 15, 3) := by decide +kernel
theorem dW_pass_71 : decode cW_pass 71 = .ok (.iadd, 1) := by decide +kernel
theorem dW_pass_72 : decode cW_pass 72 = .ok (.putfield 25, 3) := by decide +kernel
theorem dW_pass_75 : decode cW_pass 75 = .ok (.goto 41, 3) := by decide +kernel
theorem dW_pass_78 : decode cW_pass 78 = .ok (.aload_n 0, 1) := by decide +kernel
theorem dW_pass_79 : decode cW_pass 79 = .ok (.getfield 22, 3) := by decide +kernel
theorem dW_pass_82 : decode cW_pass 82 = .ok (.ifCond .le 29, 3) := by decide +kernel
theorem dW_pass_85 : decode cW_pass 85 = .ok (.aload_n 0, 1) := by decide +kernel
theorem dW_pass_86 : decode cW_pass 86 = .ok (.dup, 1) := by decide +kernel
theorem dW_pass_87 : decode cW_pass 87 = .ok (.getfield 22, 3) := by decide +kernel
theorem dW_pass_90 : decode cW_pass 90 = .ok (.iconst 1, 1) := by decide +kernel
theorem dW_pass_91 : decode cW_pass 91 = .ok (.isub, 1) := by decide +kernel
theorem dW_pass_92 : decode cW_pass 92 = .ok (.putfield 22, 3) := by decide +kernel
theorem dW_pass_95 : decode cW_pass 95 = .ok (.aload_n 0, 1) := by decide +kernel
theorem dW_pass_96 : decode cW_pass 96 = .ok (.aload_n 0, 1) := by decide +kernel
theorem dW_pass_97 : decode cW_pass 97 = .ok (.getfield 18, 3) := by decide +kernel
theorem dW_pass_100 : decode cW_pass 100 = .ok (.aload_n 0, 1) := by decide +kernel
theorem dW_pass_101 : decode cW_pass 101 = .ok (.getfield 22, 3) := by decide +kernel
theorem dW_pass_104 : decode cW_pass 104 = .ok (.iaload, 1) := by decide +kernel
theorem dW_pass_105 : decode cW_pass 105 = .ok (.putfield 25, 3) := by decide +kernel
theorem dW_pass_108 : decode cW_pass 108 = .ok (.goto 8, 3) := by decide +kernel
theorem dW_pass_111 : decode cW_pass 111 = .ok (.aload_n 0, 1) := by decide +kernel
theorem dW_pass_112 : decode cW_pass 112 = .ok (.iconst 0, 1) := by decide +kernel
theorem dW_pass_113 : decode cW_pass 113 = .ok (.putfield 25, 3) := by decide +kernel
theorem dW_pass_116 : decode cW_pass 116 = .ok (.return_, 1) := by decide +kernel
end
section
/-! Int32 by whole numbers -/
def ci_i (z : Int) : Int32 := Int32.ofInt z
theorem ci_nat (n : Nat) : ci_i (n : Int) = nI n := Int32.ofInt_eq_ofNat
theorem ci_to {z : Int} (h : -2147483648 ≤ z) (h2 : z < 2147483648) : (ci_i z).toInt = z := Int32.toInt_ofInt_of_le (by omega) (by omega)
theorem ci_of (x : Int32) : x = ci_i x.toInt := (Int32.ofInt_toInt x).symm
theorem ci_rng (x : Int32) : -2147483648 ≤ x.toInt ∧ x.toInt < 2147483648 := by
  have h1 := Int32.le_toInt x
  have h2 := Int32.toInt_lt x
  omega
theorem ci_add (a b : Int) : ci_i a + ci_i b = ci_i (a + b) := (Int32.ofInt_add a b).symm
theorem ci_sub (a b : Int) : ci_i a - ci_i b = ci_i (a - b) := (Int32.ofInt_sub a b).symm
theorem ci_mul (a b : Int) : ci_i a * ci_i b = ci_i (a * b) := (Int32.ofInt_mul a b).symm
theorem ci_eq {a b : Int} (ha : -2147483648 ≤ a ∧ a < 2147483648) (hb : -2147483648 ≤ b ∧ b < 2147483648) : ci_i a = ci_i b ↔ a = b := by
  constructor
  · intro h
    have := congrArg Int32.toInt h
    rwa [ci_to ha.1 ha.2, ci_to hb.1 hb.2] at this
  · intro h
    rw [h]
theorem ci_lt {a b : Int} (ha : -2147483648 ≤ a ∧ a < 2147483648) (hb : -2147483648 ≤ b ∧ b < 2147483648) : ci_i a < ci_i b ↔ a < b := by
  rw [Int32.lt_iff_toInt_lt, ci_to ha.1 ha.2, ci_to hb.1 hb.2]
theorem ci_le {a b : Int} (ha : -2147483648 ≤ a ∧ a < 2147483648) (hb : -2147483648 ≤ b ∧ b < 2147483648) : ci_i a ≤ ci_i b ↔ a ≤ b := by
  rw [Int32.le_iff_toInt_le, ci_to ha.1 ha.2, ci_to hb.1 hb.2]
theorem ci_0 : (0 : Int32) = ci_i 0 := by decide
theorem ci_1 : (1 : Int32) = ci_i 1 := by decide
theorem ci_2 : (2 : Int32) = ci_i 2 := by decide
theorem ci_m1 : (-1 : Int32) = ci_i (-1) := by decide
theorem ci_m2 : (-2 : Int32) = ci_i (-2) := by decide
theorem ci_99 : (99 : Int32) = ci_i 99 := by decide
theorem ci_100 : (100 : Int32) = ci_i 100 := by decide
theorem ci_1000 : (1000 : Int32) = ci_i 1000 := by decide
theorem ci_2000 : (2000 : Int32) = ci_i 2000 := by decide
theorem ci_cl {n : Nat} (h : n < 2147483648) : (ci_i (n : Int)).toNatClampNeg = n := by
  rw [ci_nat]
  exact nI_clamp (by omega)
theorem ci_in {n N : Nat} (h : n < N) (hN : N < 2147483648) : vp_in (ci_i (n : Int)) N := by
  rw [ci_nat]
  exact vp_in_nI h (by omega)
end
section
/-! worlds as maps from addresses: what a cell holds, wherever it stands in the list -/
abbrev mp_W : Type := Nat → Option va_E
def mp_cov (w : mp_W) (ws : va_W) : Prop := ∀ a x, w a = some x ↔ (a, x) ∈ ws
def mp_up (w : mp_W) (a : Nat) (x : va_E) : mp_W := fun q => if q = a then some x else w q
theorem mp_up_self (w : mp_W) (a : Nat) (x : va_E) : mp_up w a x a = some x := if_pos rfl
theorem mp_up_ne (w : mp_W) {a q : Nat} (x : va_E) (h : q ≠ a) : mp_up w a x q = w q := if_neg h
theorem mp_cov.at {w : mp_W} {ws : va_W} {a : Nat} {x : va_E} (h : mp_cov w ws) (hw : w a = some x) : ∃ k : Nat, ws[k]? = some (a, x) := List.getElem?_of_mem ((h a x).mp hw)
theorem mp_cov.set {A : Nat → Prop} {w : mp_W} {ws : va_W} {k a : Nat} {e0 x : va_E} (h : mp_cov w ws) (hD : va_D A ws) (hk : ws[k]? = some (a, e0)) : mp_cov (mp_up w a x) (ws.set k (a, x)) := by
  intro q z
  constructor
  · intro hq
    by_cases hqa : q = a
    · subst hqa
      rw [mp_up_self] at hq
      cases hq
      exact List.mem_of_getElem? (List.getElem?_set_self (List.getElem?_eq_some_iff.mp hk).1)
    · rw [mp_up_ne _ _ hqa] at hq
      obtain ⟨i, hi⟩ := h.at hq
      have hik : i ≠ k := fun y => hqa (by rw [y, hk] at hi; cases hi; rfl)
      exact List.mem_of_getElem? (by rw [List.getElem?_set_ne (Ne.symm hik)]; exact hi)
  · intro hm
    obtain ⟨i, hi⟩ := List.getElem?_of_mem hm
    by_cases hik : i = k
    · subst hik
      rw [List.getElem?_set_self (List.getElem?_eq_some_iff.mp hk).1] at hi
      cases hi
      exact mp_up_self ..
    · rw [List.getElem?_set_ne (Ne.symm hik)] at hi
      have hqa : q ≠ a := fun y => hik (hD.1 i k (q, z) (a, e0) hi hk y)
      rw [mp_up_ne _ _ hqa]
      exact (h q z).mpr (List.mem_of_getElem? hi)
theorem mp_cov.push {A : Nat → Prop} {w : mp_W} {ws : va_W} {q : Nat} {x : va_E} (h : mp_cov w ws) (hD : va_D A (ws ++ [(q, x)])) : mp_cov (mp_up w q x) (ws ++ [(q, x)]) ∧ w q = none := by
  have h0 : (ws ++ [(q, x)])[ws.length]? = some (q, x) := by simp
  have hn : ∀ z, (q, z) ∉ ws := by
    intro z hz
    obtain ⟨i, hi⟩ := List.getElem?_of_mem hz
    have hl := (List.getElem?_eq_some_iff.mp hi).1
    have := hD.1 i ws.length (q, z) (q, x) (by rw [List.getElem?_append_left hl]; exact hi) h0 rfl
    omega
  have hq : w q = none := by
    cases hw : w q with
    | none => rfl
    | some z => exact absurd ((h q z).mp hw) (hn z)
  refine ⟨fun a z => ?_, hq⟩
  by_cases ha : a = q
  · subst ha
    rw [mp_up_self]
    constructor
    · intro hz
      cases hz
      simp
    · intro hz
      rcases List.mem_append.mp hz with hz | hz
      · exact absurd hz (hn z)
      · have : (a, z) = (a, x) := by simpa using hz
        cases this
        rfl
  · rw [mp_up_ne _ _ ha, h a z]
    constructor
    · intro hz
      exact List.mem_append_left _ hz
    · intro hz
      rcases List.mem_append.mp hz with hz | hz
      · exact hz
      · have : (a, z) = (q, x) := by simpa using hz
        exact absurd (congrArg Prod.fst this) ha
/-- what a method may change: its world's cells, and those that it makes -/
def mp_A (w : mp_W) (sz : Nat) : Nat → Prop := fun q => (∃ x, w q = some x) ∨ sz ≤ q
def mp_P (D : va_G) (cl : List vw_C) (w : mp_W) (H : Heap) : Prop := ∃ ws, va_P D cl ws H ∧ va_D (fun _ => True) ws ∧ mp_cov w ws
def mp_I (D : va_G) (cl : List vw_C) (A : Nat → Prop) (H0 : Heap) (w : mp_W) (H : Heap) (locs : List Loc) : Prop := (∃ ws, va_P D cl ws H ∧ va_D A ws ∧ mp_cov w ws) ∧ va_S A H0 H locs ∧ ∀ q, H0.size ≤ q → A q
theorem mp_P.lt {D : va_G} {cl : List vw_C} {w : mp_W} {H : Heap} (h : mp_P D cl w H) {a : Nat} {x : va_E} (hw : w a = some x) : a < H.size := by
  obtain ⟨ws, hP, -, hc⟩ := h
  obtain ⟨k, hk⟩ := hc.at hw
  exact (hP k _ hk).lt
theorem mp_I.P {D : va_G} {cl : List vw_C} {A : Nat → Prop} {H0 : Heap} {w : mp_W} {H : Heap} {locs : List Loc} (h : mp_I D cl A H0 w H locs) : mp_P D cl w H := by
  obtain ⟨⟨ws, h1, h2, h3⟩, -⟩ := h
  exact ⟨ws, h1, h2.weaken (fun _ _ _ _ => trivial), h3⟩
theorem mp_I.inA {D : va_G} {cl : List vw_C} {A : Nat → Prop} {H0 : Heap} {w : mp_W} {H : Heap} {locs : List Loc} (h : mp_I D cl A H0 w H locs) {a : Nat} {x : va_E} (hw : w a = some x) : A a := by
  obtain ⟨⟨ws, h1, h2, h3⟩, -⟩ := h
  obtain ⟨k, hk⟩ := h3.at hw
  exact h2.2 k _ hk
theorem mp_I.free {D : va_G} {cl : List vw_C} {A : Nat → Prop} {H0 : Heap} {w : mp_W} {H : Heap} {locs : List Loc} (h : mp_I D cl A H0 w H locs) : ∀ q, mp_A w H.size q → A q := by
  intro q hq
  rcases hq with ⟨x, hx⟩ | hq
  · exact h.inA hx
  · exact h.2.2 q (Nat.le_trans h.2.1.1 hq)
/-- a method's start -/
theorem mp_P.I {D : va_G} {cl : List vw_C} {w : mp_W} {H : Heap} (h : mp_P D cl w H) : mp_I D cl (mp_A w H.size) H w H [] := by
  obtain ⟨ws, h1, h2, h3⟩ := h
  refine ⟨⟨ws, h1, ⟨h2.1, fun k q hk => Or.inl ⟨q.2, (h3 q.1 q.2).mpr (List.mem_of_getElem? hk)⟩⟩, h3⟩, va_S.rf, fun q hq => Or.inr hq⟩
/-- behind a call -/
theorem mp_I.back {D : va_G} {cl : List vw_C} {A : Nat → Prop} {H0 : Heap} {w w' : mp_W} {H H1 : Heap} {locs L : List Loc} (h : mp_I D cl A H0 w H locs) (hP : mp_P D cl w' H1) (hd : ∀ a x, w' a = some x → mp_A w H.size a) (hs : H.size ≤ H1.size) (hk : ∀ q, q < H.size → ¬ mp_A w H.size q → H1[q]? = H[q]?) (hL : ∀ q ∈ L, mp_A w H.size q.base) : mp_I D cl A H0 w' H1 (locs ++ L) := by
  have hF := h.free
  obtain ⟨ws, h1, h2, h3⟩ := hP
  refine ⟨⟨ws, h1, ⟨h2.1, fun k q hk => hF _ (hd q.1 q.2 ((h3 q.1 q.2).mpr (List.mem_of_getElem? hk)))⟩, h3⟩, ⟨Nat.le_trans h.2.1.1 hs, fun q hq hA => ?_, fun q hq => ?_⟩, h.2.2⟩
  · rw [hk q (Nat.lt_of_lt_of_le hq h.2.1.1) (fun z => hA (hF q z))]
    exact h.2.1.2.1 q hq hA
  · rcases List.mem_append.mp hq with hq | hq
    · exact h.2.1.2.2 q hq
    · exact hF _ (hL q hq)
abbrev mp_X (p : Program) (m : MethodId) (c : Code) (cc : ByteArray) (nL : Nat) (s : State) (args : Array Value) (Ts : List Cond) (own : String) (D : va_G) (cl : List vw_C) (tys : List (ClassId × FieldType)) : Prop := CallFix p m c cc nL s args Ts own ∧ va_K D cl tys s
theorem mp_RAu {U : State} {c1 c2 : ClassId} {ty : FieldType} (h1 : va_RA U c1 ty) (h2 : va_RA U c2 ty) : c1 = c2 := by
  cases ty with
  | object C =>
    obtain ⟨_, _, -, -, -, e1⟩ := h1
    obtain ⟨_, _, -, -, -, e2⟩ := h2
    exact Option.some.inj (e1.symm.trans e2)
  | _ => exact Option.some.inj (Eq.trans (Eq.symm (show U.vm.findClass _ = some c1 from h1)) (show U.vm.findClass _ = some c2 from h2))
section MPR
variable {p : Program} {l : Launch} {e : Env} {R : Room} {s : State} {m : MethodId} {args : Array Value} {below : List Frame} {meth : Method} {c : Code} {H : Heap} {locs : List Loc} {cells slots : Nat} {Q : State → Prop}
variable {D : va_G} {cl : List vw_C} {tys : List (ClassId × FieldType)} {A : Nat → Prop} {H0 : Heap} {w : mp_W} {cc : ByteArray} {nL pc : Nat} {Ts : List Cond} {own : String} {ls : Array Slot} {rest : List Value} {a : Nat}
theorem mp_get (hX : mp_X p m c cc nL s args Ts own D cl tys) (hI : mp_I D cl A H0 w H locs) {C : String} {T : u_T} {N ci index : Nat} {fs : List Value} (he : w a = some (.inr (ci, fs))) (hc : cl[ci]? = some (C, T, N)) (hin : ∀ w ∈ u_ws C T N, w ∈ Ts) (k : Nat) (hk : k < N) (hlink : Cond.fieldLink own index (T k).1 (T k).2.1 (T k).2.2.1 ∈ Ts) {v : Value} (hv : fs[k]? = some v) (hdg : decode cc pc = .ok (.getfield index, 3))
    (kk : W p l e R s m args below meth c H locs cells slots Q (F0 m (pc + 3) ls (v :: rest))) : W p l e R s m args below meth c H locs cells slots Q (F0 m pc ls (.ref a :: rest)) := by
  obtain ⟨⟨hx, hb, -, hown, hts⟩, hK⟩ := hX
  obtain ⟨⟨ws, hP, hD, hcv⟩, -⟩ := hI
  obtain ⟨q0, hq⟩ := hcv.at he
  exact va_get hx hb hts hin hown hK hP q0 hq hc k hk (hts _ hlink) (fun _ h => h) hv hdg kk
theorem mp_getN (hX : mp_X p m c cc nL s args Ts own D cl tys) (hI : mp_I D cl A H0 w H locs) {C host : String} {T : u_T} {N ci index : Nat} {fs : List Value} (he : w a = some (.inr (ci, fs))) (hc : cl[ci]? = some (C, T, N)) (hin : ∀ w ∈ u_ws C T N, w ∈ Ts) (k : Nat) (hk : k < N) (hlink : va_Nw (.fieldLinkNest own index (T k).1 (T k).2.1 (T k).2.2.1 host) s) {v : Value} (hv : fs[k]? = some v) (hdg : decode cc pc = .ok (.getfield index, 3))
    (kk : W p l e R s m args below meth c H locs cells slots Q (F0 m (pc + 3) ls (v :: rest))) : W p l e R s m args below meth c H locs cells slots Q (F0 m pc ls (.ref a :: rest)) := by
  obtain ⟨⟨hx, hb, -, hown, hts⟩, hK⟩ := hX
  obtain ⟨⟨ws, hP, hD, hcv⟩, -⟩ := hI
  obtain ⟨q0, hq⟩ := hcv.at he
  exact va_getN hx hb hts hin hown hK hP q0 hq hc k hk (va_Nw.use rfl hlink) (fun _ h => h) hv hdg kk
theorem mp_put (hX : mp_X p m c cc nL s args Ts own D cl tys) (hI : mp_I D cl A H0 w H locs) {C : String} {T : u_T} {N ci index : Nat} {fs : List Value} (he : w a = some (.inr (ci, fs))) (hc : cl[ci]? = some (C, T, N)) (hin : ∀ w ∈ u_ws C T N, w ∈ Ts) (ty0 : Nat → FieldType) (hty : ∀ k, k < N → parseFieldDescriptor (T k).2.2.1 = some (ty0 k)) (hnm : ∀ a, a < N → ∀ b, b < N → a ≠ b → (T a).2.1 ≠ (T b).2.1)
    (k : Nat) (hk : k < N) (hlink : Cond.fieldLink own index (T k).1 (T k).2.1 (T k).2.2.1 ∈ Ts) (hfin : (T k).2.2.2 = false) {v : Value} (hn : narrow (ty0 k) v = v) (hfit : fits (ty0 k) v = true) (hl : k < fs.length) (hdg : decode cc pc = .ok (.putfield index, 3))
    (kk : ∀ (H1 : Heap) (locs1 : List Loc), mp_I D cl A H0 (mp_up w a (.inr (ci, fs.set k v))) H1 locs1 → W p l e R s m args below meth c H1 locs1 cells slots Q (F0 m (pc + 3) ls rest)) : W p l e R s m args below meth c H locs cells slots Q (F0 m pc ls (v :: .ref a :: rest)) := by
  obtain ⟨⟨hx, hb, -, hown, hts⟩, hK⟩ := hX
  obtain ⟨⟨ws, hP, hD, hcv⟩, hS, hA⟩ := hI
  obtain ⟨q0, hq⟩ := hcv.at he
  exact va_put hx hb hts hin ty0 hty hnm hown hK hP hD hS q0 hq hc k hk (hts _ hlink) (fun _ h => h) hfin (hty k hk) hn hfit hl hdg (fun H1 locs1 hP1 hD1 hS1 => kk H1 locs1 ⟨⟨_, hP1, hD1, hcv.set hD hq⟩, hS1, hA⟩)
theorem mp_putN (hX : mp_X p m c cc nL s args Ts own D cl tys) (hI : mp_I D cl A H0 w H locs) {C host : String} {T : u_T} {N ci index : Nat} {fs : List Value} (he : w a = some (.inr (ci, fs))) (hc : cl[ci]? = some (C, T, N)) (hin : ∀ w ∈ u_ws C T N, w ∈ Ts) (ty0 : Nat → FieldType) (hty : ∀ k, k < N → parseFieldDescriptor (T k).2.2.1 = some (ty0 k)) (hnm : ∀ a, a < N → ∀ b, b < N → a ≠ b → (T a).2.1 ≠ (T b).2.1)
    (k : Nat) (hk : k < N) (hlink : va_Nw (.fieldLinkNest own index (T k).1 (T k).2.1 (T k).2.2.1 host) s) (hfin : (T k).2.2.2 = false) {v : Value} (hn : narrow (ty0 k) v = v) (hfit : fits (ty0 k) v = true) (hl : k < fs.length) (hdg : decode cc pc = .ok (.putfield index, 3))
    (kk : ∀ (H1 : Heap) (locs1 : List Loc), mp_I D cl A H0 (mp_up w a (.inr (ci, fs.set k v))) H1 locs1 → W p l e R s m args below meth c H1 locs1 cells slots Q (F0 m (pc + 3) ls rest)) : W p l e R s m args below meth c H locs cells slots Q (F0 m pc ls (v :: .ref a :: rest)) := by
  obtain ⟨⟨hx, hb, -, hown, hts⟩, hK⟩ := hX
  obtain ⟨⟨ws, hP, hD, hcv⟩, hS, hA⟩ := hI
  obtain ⟨q0, hq⟩ := hcv.at he
  exact va_putN hx hb hts hin ty0 hty hnm hown hK hP hD hS q0 hq hc k hk (va_Nw.use rfl hlink) (fun _ h => h) hfin (hty k hk) hn hfit hl hdg (fun H1 locs1 hP1 hD1 hS1 => kk H1 locs1 ⟨⟨_, hP1, hD1, hcv.set hD hq⟩, hS1, hA⟩)
theorem mp_putF (hX : mp_X p m c cc nL s args Ts own D cl tys) (hI : mp_I D cl A H0 w H locs) {C : String} {T : u_T} {N ci index : Nat} {fs : List Value} (he : w a = some (.inr (ci, fs))) (hc : cl[ci]? = some (C, T, N)) (hin : ∀ w ∈ u_ws C T N, w ∈ Ts) (ty0 : Nat → FieldType) (hty : ∀ k, k < N → parseFieldDescriptor (T k).2.2.1 = some (ty0 k)) (hnm : ∀ a, a < N → ∀ b, b < N → a ≠ b → (T a).2.1 ≠ (T b).2.1)
    (k : Nat) (hk : k < N) (hlink : Cond.fieldLink own index (T k).1 (T k).2.1 (T k).2.2.1 ∈ Ts) (hfin : (T k).2.2.2 = true) (hin2 : meth.name = "<init>") (hdecl : (T k).1 = own) {v : Value} (hn : narrow (ty0 k) v = v) (hfit : fits (ty0 k) v = true) (hl : k < fs.length) (hdg : decode cc pc = .ok (.putfield index, 3))
    (kk : ∀ (H1 : Heap) (locs1 : List Loc), mp_I D cl A H0 (mp_up w a (.inr (ci, fs.set k v))) H1 locs1 → W p l e R s m args below meth c H1 locs1 cells slots Q (F0 m (pc + 3) ls rest)) : W p l e R s m args below meth c H locs cells slots Q (F0 m pc ls (v :: .ref a :: rest)) := by
  obtain ⟨⟨hx, hb, -, hown, hts⟩, hK⟩ := hX
  obtain ⟨⟨ws, hP, hD, hcv⟩, hS, hA⟩ := hI
  obtain ⟨q0, hq⟩ := hcv.at he
  exact va_putF hx hb hts hin ty0 hty hnm hown hK hP hD hS q0 hq hc k hk (hts _ hlink) (fun _ h => h) hfin hin2 hdecl (hty k hk) hn hfit hl hdg (fun H1 locs1 hP1 hD1 hS1 => kk H1 locs1 ⟨⟨_, hP1, hD1, hcv.set hD hq⟩, hS1, hA⟩)
theorem mp_ild (hX : mp_X p m c cc nL s args Ts own D cl tys) (hI : mp_I D cl A H0 w H locs) {cA : ClassId} {n : Nat} {f : Nat → Int32} (ha : w a = some (.inl (cA, n, .inl f))) (t0 : Nat) (ht : tys[t0]? = some (cA, .int)) {i : Int32} (hin : vp_in i n) (hdg : decode cc pc = .ok (.iaload, 1))
    (kk : W p l e R s m args below meth c H locs cells slots Q (F0 m (pc + 1) ls (.int (f i.toNatClampNeg) :: rest))) : W p l e R s m args below meth c H locs cells slots Q (F0 m pc ls (.int i :: .ref a :: rest)) := by
  obtain ⟨⟨hx, hb, -, hown, hts⟩, hK⟩ := hX
  obtain ⟨⟨ws, hP, hD, hcv⟩, -⟩ := hI
  obtain ⟨q0, hq⟩ := hcv.at ha
  exact va_iald hx hb hK hP q0 t0 hq ht hin hdg kk
theorem mp_bld (hX : mp_X p m c cc nL s args Ts own D cl tys) (hI : mp_I D cl A H0 w H locs) {cA : ClassId} {n : Nat} {f : Nat → Int32} (ha : w a = some (.inl (cA, n, .inl f))) (t0 : Nat) (ht : tys[t0]? = some (cA, .byte)) {i : Int32} (hin : vp_in i n) (hdg : decode cc pc = .ok (.baload, 1))
    (kk : W p l e R s m args below meth c H locs cells slots Q (F0 m (pc + 1) ls (.int (f i.toNatClampNeg) :: rest))) : W p l e R s m args below meth c H locs cells slots Q (F0 m pc ls (.int i :: .ref a :: rest)) := by
  obtain ⟨⟨hx, hb, -, hown, hts⟩, hK⟩ := hX
  obtain ⟨⟨ws, hP, hD, hcv⟩, -⟩ := hI
  obtain ⟨q0, hq⟩ := hcv.at ha
  exact va_bald hx hb hK hP q0 t0 hq ht hin hdg kk
theorem mp_lld (hX : mp_X p m c cc nL s args Ts own D cl tys) (hI : mp_I D cl A H0 w H locs) {cA : ClassId} {n : Nat} {f : Nat → Int64} (ha : w a = some (.inl (cA, n, .inr (.inl f)))) (t0 : Nat) (ht : tys[t0]? = some (cA, .long)) {i : Int32} (hin : vp_in i n) (hdg : decode cc pc = .ok (.laload, 1))
    (kk : W p l e R s m args below meth c H locs cells slots Q (F0 m (pc + 1) ls (.long (f i.toNatClampNeg) :: rest))) : W p l e R s m args below meth c H locs cells slots Q (F0 m pc ls (.int i :: .ref a :: rest)) := by
  obtain ⟨⟨hx, hb, -, hown, hts⟩, hK⟩ := hX
  obtain ⟨⟨ws, hP, hD, hcv⟩, -⟩ := hI
  obtain ⟨q0, hq⟩ := hcv.at ha
  exact va_lald hx hb hK hP q0 t0 hq ht hin hdg kk
theorem mp_ist (hX : mp_X p m c cc nL s args Ts own D cl tys) (hI : mp_I D cl A H0 w H locs) {cA : ClassId} {n : Nat} {f : Nat → Int32} (ha : w a = some (.inl (cA, n, .inl f))) (t0 : Nat) (ht : tys[t0]? = some (cA, .int)) {i x : Int32} (hin : vp_in i n) (hdg : decode cc pc = .ok (.iastore, 1))
    (kk : ∀ (H1 : Heap) (locs1 : List Loc), mp_I D cl A H0 (mp_up w a (.inl (cA, n, .inl (upd f i.toNatClampNeg x)))) H1 locs1 → W p l e R s m args below meth c H1 locs1 cells slots Q (F0 m (pc + 1) ls rest)) : W p l e R s m args below meth c H locs cells slots Q (F0 m pc ls (.int x :: .int i :: .ref a :: rest)) := by
  obtain ⟨⟨hx, hb, -, hown, hts⟩, hK⟩ := hX
  obtain ⟨⟨ws, hP, hD, hcv⟩, hS, hA⟩ := hI
  obtain ⟨q0, hq⟩ := hcv.at ha
  exact va_iast hx hb hK hP hD hS q0 t0 hq ht hin hdg (fun H1 locs1 hP1 hD1 hS1 => kk H1 locs1 ⟨⟨_, hP1, hD1, hcv.set hD hq⟩, hS1, hA⟩)
theorem mp_bst (hX : mp_X p m c cc nL s args Ts own D cl tys) (hI : mp_I D cl A H0 w H locs) {cA : ClassId} {n : Nat} {f : Nat → Int32} (ha : w a = some (.inl (cA, n, .inl f))) (t0 : Nat) (ht : tys[t0]? = some (cA, .byte)) {i x : Int32} (hin : vp_in i n) (hdg : decode cc pc = .ok (.bastore, 1))
    (kk : ∀ (H1 : Heap) (locs1 : List Loc), mp_I D cl A H0 (mp_up w a (.inl (cA, n, .inl (upd f i.toNatClampNeg (vp_nar .byte x))))) H1 locs1 → W p l e R s m args below meth c H1 locs1 cells slots Q (F0 m (pc + 1) ls rest)) : W p l e R s m args below meth c H locs cells slots Q (F0 m pc ls (.int x :: .int i :: .ref a :: rest)) := by
  obtain ⟨⟨hx, hb, -, hown, hts⟩, hK⟩ := hX
  obtain ⟨⟨ws, hP, hD, hcv⟩, hS, hA⟩ := hI
  obtain ⟨q0, hq⟩ := hcv.at ha
  exact va_bast hx hb hK hP hD hS q0 t0 hq ht hin hdg (fun H1 locs1 hP1 hD1 hS1 => kk H1 locs1 ⟨⟨_, hP1, hD1, hcv.set hD hq⟩, hS1, hA⟩)
theorem mp_lst (hX : mp_X p m c cc nL s args Ts own D cl tys) (hI : mp_I D cl A H0 w H locs) {cA : ClassId} {n : Nat} {f : Nat → Int64} (ha : w a = some (.inl (cA, n, .inr (.inl f)))) (t0 : Nat) (ht : tys[t0]? = some (cA, .long)) {i : Int32} {x : Int64} (hin : vp_in i n) (hdg : decode cc pc = .ok (.lastore, 1))
    (kk : ∀ (H1 : Heap) (locs1 : List Loc), mp_I D cl A H0 (mp_up w a (.inl (cA, n, .inr (.inl (vp_updL f i.toNatClampNeg x))))) H1 locs1 → W p l e R s m args below meth c H1 locs1 cells slots Q (F0 m (pc + 1) ls rest)) : W p l e R s m args below meth c H locs cells slots Q (F0 m pc ls (.long x :: .int i :: .ref a :: rest)) := by
  obtain ⟨⟨hx, hb, -, hown, hts⟩, hK⟩ := hX
  obtain ⟨⟨ws, hP, hD, hcv⟩, hS, hA⟩ := hI
  obtain ⟨q0, hq⟩ := hcv.at ha
  exact va_last hx hb hK hP hD hS q0 t0 hq ht hin hdg (fun H1 locs1 hP1 hD1 hS1 => kk H1 locs1 ⟨⟨_, hP1, hD1, hcv.set hD hq⟩, hS1, hA⟩)
theorem mp_ald (hX : mp_X p m c cc nL s args Ts own D cl tys) (hI : mp_I D cl A H0 w H locs) {cA : ClassId} {C : String} {n : Nat} {f : Nat → Option Nat} (ha : w a = some (.inl (cA, n, .inr (.inr (.inr (.inr f)))))) (t0 : Nat) (ht : tys[t0]? = some (cA, .object C)) {i : Int32} (hin : vp_in i n) (hdg : decode cc pc = .ok (.aaload, 1))
    (kk : W p l e R s m args below meth c H locs cells slots Q (F0 m (pc + 1) ls (va_rf (f i.toNatClampNeg) :: rest))) : W p l e R s m args below meth c H locs cells slots Q (F0 m pc ls (.int i :: .ref a :: rest)) := by
  obtain ⟨⟨hx, hb, -, hown, hts⟩, hK⟩ := hX
  obtain ⟨⟨ws, hP, hD, hcv⟩, -⟩ := hI
  obtain ⟨q0, hq⟩ := hcv.at ha
  exact va_aldq hx hb hK hP q0 t0 hq ht hin hdg kk
theorem mp_ast (hX : mp_X p m c cc nL s args Ts own D cl tys) (hI : mp_I D cl A H0 w H locs) {cA : ClassId} {r : vw_C} {ci n v : Nat} {vs : List Value} {f : Nat → Option Nat} (ha : w a = some (.inl (cA, n, .inr (.inr (.inr (.inr f)))))) (t0 : Nat) (ht : tys[t0]? = some (cA, .object r.1)) (hv : w v = some (.inr (ci, vs))) (hc : cl[ci]? = some r) {i : Int32} (hin : vp_in i n) (hdg : decode cc pc = .ok (.aastore, 1))
    (kk : ∀ (H1 : Heap) (locs1 : List Loc), mp_I D cl A H0 (mp_up w a (.inl (cA, n, .inr (.inr (.inr (.inr (va_up f i.toNatClampNeg (some v)))))))) H1 locs1 → W p l e R s m args below meth c H1 locs1 cells slots Q (F0 m (pc + 1) ls rest)) : W p l e R s m args below meth c H locs cells slots Q (F0 m pc ls (.ref v :: .int i :: .ref a :: rest)) := by
  obtain ⟨⟨hx, hb, -, hown, hts⟩, hK⟩ := hX
  obtain ⟨⟨ws, hP, hD, hcv⟩, hS, hA⟩ := hI
  obtain ⟨q0, hq⟩ := hcv.at ha
  obtain ⟨qk, hqk⟩ := hcv.at hv
  exact va_astq hx hb hK hP hD hS q0 t0 qk ci hq ht hqk hc hin hdg (fun H1 locs1 hP1 hD1 hS1 => kk H1 locs1 ⟨⟨_, hP1, hD1, hcv.set hD hq⟩, hS1, hA⟩)
theorem mp_len (hX : mp_X p m c cc nL s args Ts own D cl tys) (hI : mp_I D cl A H0 w H locs) {cA : ClassId} {x : vp_A} (ha : w a = some (.inl (cA, x))) (t0 : Nat) {ty : FieldType} (ht : tys[t0]? = some (cA, ty)) {v : Int32} (hv : Int32.ofNat x.1 = v) (hdg : decode cc pc = .ok (.arraylength, 1))
    (kk : W p l e R s m args below meth c H locs cells slots Q (F0 m (pc + 1) ls (.int v :: rest))) : W p l e R s m args below meth c H locs cells slots Q (F0 m pc ls (.ref a :: rest)) := by
  obtain ⟨⟨hx, hb, -, hown, hts⟩, hK⟩ := hX
  obtain ⟨⟨ws, hP, hD, hcv⟩, -⟩ := hI
  obtain ⟨q0, hq⟩ := hcv.at ha
  exact va_alen hx hb hK hP q0 t0 hq ht hv hdg kk
theorem mp_newa (hX : mp_X p m c cc nL s args Ts own D cl tys) (hI : mp_I D cl A H0 w H locs) {atype : ArrayType} (harr : Cond.arrayClass (newarray.typeOf atype) ∈ Ts) {ty : FieldType} (hty : newarray.typeOf atype = ty) {cA : ClassId} (t0 : Nat) (ht : tys[t0]? = some (cA, ty))
    {n : Int32} {N' : Nat} {a0 : vp_A} (ha : ∀ cA : ClassId, vp_cell cA a0 = arrV cA N' (fun _ => defaultValue ty)) (hn : ¬ n < 0) (hN : n.toNatClampNeg = N') (hbytes : N' * componentBytes ty ≤ 536870912) (hcells : cells + 1 ≤ R.cells) (hslots : slots + N' ≤ R.slots) (hdg : decode cc pc = .ok (.newarray atype, 2))
    (kk : ∀ (q : Nat) (H1 : Heap), w q = none → mp_I D cl A H0 (mp_up w q (.inl (cA, a0))) H1 locs → W p l e R s m args below meth c H1 locs (cells + 1) (slots + N') Q (F0 m (pc + 2) ls (.ref q :: rest))) : W p l e R s m args below meth c H locs cells slots Q (F0 m pc ls (.int n :: rest)) := by
  obtain ⟨⟨hx, hb, -, hown, hts⟩, hK⟩ := hX
  obtain ⟨⟨ws, hP, hD, hcv⟩, hS, hA⟩ := hI
  refine va_newa hx hb (hts _ harr) hty hK hP hD hS hA ha hn hN hbytes hcells hslots hdg (fun q c1 H1 hK1 hP1 hD1 hS1 => ?_)
  have h2 : c1 = cA := mp_RAu (hK1.2 tys.length (c1, ty) (by simp)).2 (hK.2 t0 _ ht).2
  subst h2
  have h3 := hcv.push hD1
  exact kk q H1 h3.2 ⟨⟨_, hP1, hD1, h3.1⟩, hS1, hA⟩
theorem mp_new (hX : mp_X p m c cc nL s args Ts own D cl tys) (hI : mp_I D cl A H0 w H locs) {C : String} {T : u_T} {N ci index : Nat} (hc : cl[ci]? = some (C, T, N)) (hin : ∀ w ∈ u_ws C T N, w ∈ Ts) (ty : Nat → FieldType) (hty : ∀ k, k < N → parseFieldDescriptor (T k).2.2.1 = some (ty k)) (hcl : Cond.classLink own index C ∈ Ts) (hinst : Cond.instantiable C N ∈ Ts) (hini : Cond.initialized C ∈ Ts)
    {fs : List Value} (hfs : ∀ j, j < N → defaultValue (ty j) = vp_V fs j) (hcells : cells + 1 ≤ R.cells) (hslots : slots + N ≤ R.slots) (hdg : decode cc pc = .ok (.new index, 3))
    (kk : ∀ (q : Nat) (H1 : Heap), w q = none → mp_I D cl A H0 (mp_up w q (.inr (ci, fs))) H1 locs → W p l e R s m args below meth c H1 locs (cells + 1) (slots + N) Q (F0 m (pc + 3) ls (.ref q :: rest))) : W p l e R s m args below meth c H locs cells slots Q (F0 m pc ls rest) := by
  obtain ⟨⟨hx, hb, -, hown, hts⟩, hK⟩ := hX
  obtain ⟨⟨ws, hP, hD, hcv⟩, hS, hA⟩ := hI
  refine va_new hx hb hts hin ty hty hown (hts _ hcl) (hts _ hinst) (hts _ hini) hK hP hD hS hA hc hfs hcells hslots hdg (fun q H1 hP1 hD1 hS1 => ?_)
  have h3 := hcv.push hD1
  exact kk q H1 h3.2 ⟨⟨_, hP1, hD1, h3.1⟩, hS1, hA⟩
theorem mp_copy (hX : mp_X p m c cc nL s args Ts own D cl tys) (hI : mp_I D cl A H0 w H locs) (hls : ls.size = nL) {index : Nat} (hlink : Cond.methodLink own index arraycopyName ∈ Ts) (hnat : Cond.native arraycopyName ∈ Ts) (hstat : Cond.static arraycopyName ∈ Ts) (hini : Cond.initialized "java/lang/System" ∈ Ts)
    {a0 : Nat} {c0 c1 : ClassId} {n0 n1 : Nat} {f g : Nat → Int32} {ty : FieldType} (ha0 : w a0 = some (.inl (c0, n0, .inl f))) (ha1 : w a = some (.inl (c1, n1, .inl g))) (t0 t1 : Nat) (ht0 : tys[t0]? = some (c0, ty)) (ht1 : tys[t1]? = some (c1, ty)) (hprim : refKind ty = false)
    {sp dp n : Int32} (h1 : ¬ sp < 0) (h2 : ¬ dp < 0) (h3 : ¬ n < 0) (h4 : sp.toNatClampNeg + n.toNatClampNeg ≤ n0) (h5 : dp.toNatClampNeg + n.toNatClampNeg ≤ n1) (hfit : ∀ i, i < n.toNatClampNeg → fits ty (.int (f (sp.toNatClampNeg + i))) = true)
    (hframes : 1 ≤ R.frames) (hlocals : (rest.map fun v => v.category).sum + (nativeFrameWords "java/lang/System" "arraycopy" 5 + 11) ≤ R.locals) (hdg : decode cc pc = .ok (.invokestatic index, 3))
    (kk : ∀ (H1 : Heap) (locs1 : List Loc), mp_I D cl A H0 (mp_up w a (.inl (c1, n1, .inl (va_cpy f g sp.toNatClampNeg dp.toNatClampNeg n.toNatClampNeg)))) H1 locs1 → W p l e R s m args below meth c H1 locs1 cells slots Q (F0 m (pc + 3) ls rest)) : W p l e R s m args below meth c H locs cells slots Q (F0 m pc ls (.int n :: .int dp :: .ref a :: .int sp :: .ref a0 :: rest)) := by
  obtain ⟨⟨hx, hb, hml, hown, hts⟩, hK⟩ := hX
  obtain ⟨⟨ws, hP, hD, hcv⟩, hS, hA⟩ := hI
  obtain ⟨q0, hq0⟩ := hcv.at ha0
  obtain ⟨q1, hq1⟩ := hcv.at ha1
  exact va_copyi hx hb (by rw [hml, hls]) hown (hts _ hlink) (hts _ hnat) (hts _ hstat) (hts _ hini) hK hP hD hS q0 q1 t0 t1 hq0 hq1 ht0 ht1 hprim h1 h2 h3 h4 h5 hfit hframes hlocals hdg (fun H1 locs1 hP1 hD1 hS1 => kk H1 locs1 ⟨⟨_, hP1, hD1, hcv.set hD hq1⟩, hS1, hA⟩)
end MPR
end
section
/-! contracts over worlds as maps: what a method is asked, what it answers, what it throws -/
abbrev ct_ty (K : Nat → ClassId) : List (ClassId × FieldType) := [(K 0, .int), (K 1, .byte), (K 2, .long), (K 3, .object "BindingBench$Term"), (K 4, .array .int)]
/-- words that hold of the tables, but are no good words: fields of nest mates, casts, methods that are declared; the texts; the statics of Throwable -/
def ct_fl : List (String × Nat × String × String × String) := [("BindingBench$Text", 36, "BindingBench$Term", "cells", "[I"), ("BindingBench$Workshop", 59, "BindingBench$Term", "cells", "[I"), ("BindingBench$Text", 31, "BindingBench$Term", "size", "I"), ("BindingBench$Workshop", 44, "BindingBench$Term", "size", "I"), ("BindingBench", 97, "BindingBench$Term", "size", "I"), ("BindingBench$Text", 40, "BindingBench$Walk", "count", "I"), ("BindingBench$Workshop", 63, "BindingBench$Walk", "count", "I"), ("BindingBench", 129, "BindingBench$Text", "bytes", "[B"), ("BindingBench", 121, "BindingBench$Text", "length", "I")]
def ct_ca : List (String × String) := [("java/util/NoSuchElementException", "java/util/NoSuchElementException"), ("java/lang/IllegalStateException", "java/lang/IllegalStateException"), ("java/lang/IllegalArgumentException", "java/lang/IllegalArgumentException"), ("java/lang/ArithmeticException", "java/lang/ArithmeticException"), ("java/lang/IndexOutOfBoundsException", "java/lang/IndexOutOfBoundsException"), ("[B", "java/lang/Cloneable")]
def ct_de : List MethodName := [⟨"java/lang/RuntimeException", "<init>", "()V"⟩, ⟨"java/lang/RuntimeException", "<init>", "(Ljava/lang/String;)V"⟩, ⟨"java/lang/Exception", "<init>", "()V"⟩, ⟨"java/lang/Exception", "<init>", "(Ljava/lang/String;)V"⟩, ⟨"java/lang/Throwable", "<init>", "()V"⟩, ⟨"java/lang/Throwable", "<init>", "(Ljava/lang/String;)V"⟩]
def ct_st : List (String × Nat × String) := [("BindingBench", 135, "no such REGISTER"), ("BindingBench", 138, "no such FREE"), ("BindingBench$Workshop", 119, "beyond the greatest SIZE or DEPTH"), ("BindingBench", 64, "no FUNCTION"), ("BindingBench", 72, "no (a b)"), ("BindingBench$Workshop", 100, "too many STEPS"), ("BindingBench", 113, "another what"), ("BindingBench", 126, "no such byte of OUT")]
def ct_Z (n0 : Nat) (U : State) : Prop :=
  (∀ q ∈ ct_fl, va_Nw (.fieldLinkNest q.1 q.2.1 q.2.2.1 q.2.2.2.1 q.2.2.2.2 "BindingBench") U) ∧ (∀ q ∈ ct_ca, va_Nw (.castable q.1 q.2) U) ∧ (∀ y ∈ ct_de, va_Nw (.declares y) U) ∧ (∀ q ∈ ct_st, ∃ a, vk_R q.1 q.2.1 q.2.2 a U) ∧
  vx_Zq Bundle.tN "UNASSIGNED_STACK" Bundle.steD (fun q => n0 ≤ q) U U.heap ∧ vx_Zq Bundle.tN "SUPPRESSED_SENTINEL" Bundle.listD (fun q => n0 ≤ q) U U.heap
theorem ct_Z.moved {n0 : Nat} {s U : State} (h : ct_Z n0 s) (hW : s.WarmedH U.vm) (hh : ∀ q, q < n0 → U.heap[q]? = s.heap[q]?) : ct_Z n0 U := by
  obtain ⟨h1, h2, h3, h4, h5, h6⟩ := h
  exact ⟨fun q hq => va_Nw.warmF hW (h1 q hq), fun q hq => va_Nw.warmC hW (h2 q hq), fun q hq => va_Nw.warmD hW (h3 q hq), fun q hq => (h4 q hq).imp fun a ha => vk_R.warm hW ha,
    vx_Zq.kept (vx_Zq.moved hW.alike h5) (fun a _ hn => hh a (Nat.lt_of_not_le hn)), vx_Zq.kept (vx_Zq.moved hW.alike h6) (fun a _ hn => hh a (Nat.lt_of_not_le hn))⟩
theorem ct_Z.same {n0 : Nat} {s U : State} (h : ct_Z n0 s) (hv : s.vm = U.vm) (hh : U.heap = s.heap) : ct_Z n0 U := by
  obtain ⟨h1, h2, h3, h4, h5, h6⟩ := h
  refine ⟨fun q hq => va_Nw.same rfl hv (h1 q hq), fun q hq => va_Nw.same rfl hv (h2 q hq), fun q hq => va_Nw.same rfl hv (h3 q hq), fun q hq => (h4 q hq).imp fun a ha => vk_R.same hv.symm ha, ?_, ?_⟩
  · rw [hh]; exact vx_Zq.moved (by rw [hv]; exact Vm.Alike.refl _) h5
  · rw [hh]; exact vx_Zq.moved (by rw [hv]; exact Vm.Alike.refl _) h6
/-- what holds where a method is entered: the world w, of cells from n0 on -/
def ct_S (n0 : Nat) (D : va_G) (K : Nat → ClassId) (w : mp_W) (U : State) : Prop := mp_P D cl_all w U.heap ∧ va_K D cl_all (ct_ty K) U ∧ ct_Z n0 U ∧ (∀ a x, w a = some x → n0 ≤ a) ∧ n0 ≤ U.heap.size
theorem ct_S.A {n0 : Nat} {D : va_G} {K : Nat → ClassId} {w : mp_W} {U : State} (h : ct_S n0 D K w U) : ∀ q, mp_A w U.heap.size q → n0 ≤ q := by
  intro q hq
  rcases hq with ⟨x, hx⟩ | hq
  · exact h.2.2.2.1 q x hx
  · exact Nat.le_trans h.2.2.2.2 hq
def ct_P (n0 : Nat) (D : va_G) (K : Nat → ClassId) (w : mp_W) (sz : Nat) (av : List Value) : Array Value → State → Prop := va_Pc av (fun U => U.heap.size = sz ∧ ct_S n0 D K w U)
theorem ct_blind {n0 : Nat} {D : va_G} {K : Nat → ClassId} {w : mp_W} {sz : Nat} {av : List Value} : FrameBlind (ct_P n0 D K w sz av) := by
  intro a U g mk h
  obtain ⟨h0, h1, h2, h3, h4, h5, h6⟩ := h
  exact ⟨h0, h1, h2, va_K.moved (u := U) (U := U.calling g mk a) (Vm.Alike.refl U.vm) h3, ct_Z.same (U := U.calling g mk a) h4 rfl rfl, h5, h6⟩
def ct_Q (D : va_G) (w : mp_W) (sz : Nat) (post : Option Value → mp_W → Prop) : Array Value → State → Outcome → State → Prop := fun _ st o t => ∃ (v : Option Value) (w' : mp_W), o = .returned v ∧ post v w' ∧ mp_P D cl_all w' t.heap ∧ (∀ a x, w' a = some x → mp_A w sz a) ∧ va_F (mp_A w sz) st t
def ct_C (D : va_G) (w : mp_W) (sz : Nat) (thr : String → mp_W → Prop) : String → State → State → Prop := fun E st t => ∃ w' : mp_W, thr E w' ∧ mp_P D cl_all w' t.heap ∧ (∀ a x, w' a = some x → mp_A w sz a) ∧ va_F (mp_A w sz) st t
/-- y at the arguments av and the world w returns, and 'post answer world'; fr frames, lo words of locals, mc cells of ms slots are its room -/
def ct_M (l : Launch) (n0 : Nat) (D : va_G) (K : Nat → ClassId) (y : MethodName) (cw : Cond) (fr lo mc ms : Nat) (av : List Value) (w : mp_W) (post : Option Value → mp_W → Prop) : Prop :=
  ∀ sz, Met l y (cw :: gw_l) { frames := fr, cells := mc, slots := ms, locals := lo } (ct_P n0 D K w sz av) (ct_Q D w sz post) mc ms (mp_A w sz)
/-- the same, or it throws an exception of the class E, and 'thr E world' -/
def ct_X (l : Launch) (n0 : Nat) (D : va_G) (K : Nat → ClassId) (y : MethodName) (cw : Cond) (fr lo mc ms : Nat) (av : List Value) (w : mp_W) (post : Option Value → mp_W → Prop) (thr : String → mp_W → Prop) : Prop :=
  ∀ sz, vx_Met l y (cw :: gw_l) { frames := fr, cells := mc, slots := ms, locals := lo } (ct_P n0 D K w sz av) (ct_Q D w sz post) (ct_C D w sz thr) mc ms (mp_A w sz)
/-- where a body's walk stands -/
def ct_E (p : Program) (m : MethodId) (c : Code) (cc : ByteArray) (nL : Nat) (s : State) (args : Array Value) (c0 : Cond) (own : String) (D : va_G) (K : Nat → ClassId) (n0 : Nat) (w0 : mp_W) (A : Nat → Prop) : Prop :=
  mp_X p m c cc nL s args (c0 :: gw_l) own D cl_all (ct_ty K) ∧ ct_S n0 D K w0 s ∧ ∀ q, A q → n0 ≤ q
section CTB
variable {l : Launch} {n0 : Nat} {D : va_G} {K : Nat → ClassId}
theorem ct_go {y : MethodName} {cc : ByteArray} {maxL fr lo mc ms : Nat} {ret : Option FieldType} {own : String} {av : List Value} {w : mp_W} {post : Option Value → mp_W → Prop} (hy : plainName y.cls = true) (ho : y.cls = own) (hav : (lg_sl av).length ≤ maxL)
    (body : ∀ (p : Program) (e : Env) (s : State) (m : MethodId) (below : List Frame) (meth : Method) (c : Code) (ls : Array Slot), ct_E p m c cc maxL s av.toArray (Cond.code y cc maxL ret) own D K n0 w (mp_A w s.heap.size) → mp_I D cl_all (mp_A w s.heap.size) s.heap w s.heap [] → meth.sig.returnType = ret → meth.locks = false → meth.name = y.name → lv_has ls maxL (lv_args 0 av) →
      W p l e { frames := fr, cells := mc, slots := ms, locals := lo } s m av.toArray below meth c s.heap [] 0 0 (MQ below (ct_Q D w s.heap.size post) av.toArray s mc ms (mp_A w s.heap.size)) (F0 m 0 ls [])) :
    ct_M l n0 D K y (Cond.code y cc maxL ret) fr lo mc ms av w post := by
  intro sz
  refine Met.ofW (cc := cc) (maxL := maxL) (ret := ret) hy rfl ?_
  intro p e s m args below meth c s₁ B hml hv
  obtain ⟨rfl, hsz, hS⟩ := hv
  subst hsz
  have hl := lv_entry av (n := maxL) hav
  rw [lg_entry_eq]
  generalize (lg_sl av ++ List.replicate (maxL - (lg_sl av).length) Slot.unset).toArray = ls at hl ⊢
  have hown : s.vm.findClass own = some m.cls := by rw [← ho]; exact findClass_of_methodNamed B.named
  exact body p e s m below meth c ls ⟨⟨⟨B.exec, B.bytes, hml, hown, atoms_spec (ws := Cond.code y cc maxL ret :: gw_l) B.pre⟩, hS.2.1⟩, hS, hS.A⟩ hS.1.I B.returns B.notSynchronized (name_of_methodNamed B.named B.method).1 hl
theorem ct_goX {y : MethodName} {cc : ByteArray} {maxL fr lo mc ms : Nat} {ret : Option FieldType} {own : String} {av : List Value} {w : mp_W} {post : Option Value → mp_W → Prop} {thr : String → mp_W → Prop} (hy : plainName y.cls = true) (ho : y.cls = own) (hav : (lg_sl av).length ≤ maxL)
    (body : ∀ (p : Program) (e : Env) (s : State) (m : MethodId) (below : List Frame) (meth : Method) (c : Code) (ls : Array Slot), ct_E p m c cc maxL s av.toArray (Cond.code y cc maxL ret) own D K n0 w (mp_A w s.heap.size) → mp_I D cl_all (mp_A w s.heap.size) s.heap w s.heap [] → meth.sig.returnType = ret → meth.locks = false → (∀ x ∈ c.exceptionTable.toList, False) → lv_has ls maxL (lv_args 0 av) →
      W p l e { frames := fr, cells := mc, slots := ms, locals := lo } s m av.toArray below meth c s.heap [] 0 0 (vx_MQ below (ct_Q D w s.heap.size post) (ct_C D w s.heap.size thr) av.toArray s mc ms (mp_A w s.heap.size)) (F0 m 0 ls [])) :
    ct_X l n0 D K y (Cond.code y cc maxL ret) fr lo mc ms av w post thr := by
  intro sz
  refine vx_ofW (cc := cc) (maxL := maxL) (ret := ret) hy rfl ?_
  intro p e s m args below meth c s₁ B hml hout hv
  obtain ⟨rfl, hsz, hS⟩ := hv
  subst hsz
  have hl := lv_entry av (n := maxL) hav
  rw [lg_entry_eq]
  generalize (lg_sl av ++ List.replicate (maxL - (lg_sl av).length) Slot.unset).toArray = ls at hl ⊢
  have hown : s.vm.findClass own = some m.cls := by rw [← ho]; exact findClass_of_methodNamed B.named
  exact body p e s m below meth c ls ⟨⟨⟨B.exec, B.bytes, hml, hown, atoms_spec (ws := Cond.code y cc maxL ret :: gw_l) B.pre⟩, hS.2.1⟩, hS, hS.A⟩ hS.1.I B.returns B.notSynchronized hout hl
end CTB
section CTR
variable {p : Program} {l : Launch} {e : Env} {R : Room} {s : State} {m : MethodId} {args : Array Value} {below : List Frame} {meth : Method} {c : Code} {H : Heap} {locs : List Loc} {cells slots mc ms : Nat} {Q : State → Prop}
variable {n0 : Nat} {D : va_G} {K : Nat → ClassId} {A : Nat → Prop} {w w0 : mp_W} {cc : ByteArray} {nL pc : Nat} {c0 : Cond} {own : String} {ls : Array Slot} {rest : List Value} {post : Option Value → mp_W → Prop}
theorem ct_fin (hI : mp_I D cl_all (mp_A w0 s.heap.size) s.heap w H locs) {v : Option Value} (hp : post v w) {t : State} (ht : t.heap = H) : ct_Q D w0 s.heap.size post args s (.returned v) t := by
  refine ⟨v, w, rfl, hp, by rw [ht]; exact hI.P, fun a x h => hI.inA h, hI.2.1.F ht⟩
theorem ct_vret (hE : ct_E p m c cc nL s args c0 own D K n0 w0 A) (hI : mp_I D cl_all (mp_A w0 s.heap.size) s.heap w H locs) (hr : meth.sig.returnType = none) (hk : meth.locks = false) (hp : post none w) (hc : cells ≤ mc) (hs : slots ≤ ms) (hdg : decode cc pc = .ok (.return_, 1)) :
    W p l e R s m args below meth c H locs cells slots (MQ below (ct_Q D w0 s.heap.size post) args s mc ms (mp_A w0 s.heap.size)) (F0 m pc ls []) :=
  W.widen hc hs (W.vret hE.1.1.1 hE.1.1.2.1 hr (fun t ht _ => ct_fin hI hp ht) hI.2.1.2.2 hdg hk)
theorem ct_iret (hE : ct_E p m c cc nL s args c0 own D K n0 w0 A) (hI : mp_I D cl_all (mp_A w0 s.heap.size) s.heap w H locs) (hr : meth.sig.returnType = some .int) (hk : meth.locks = false) {v : Int32} (hp : post (some (.int v)) w) (hc : cells ≤ mc) (hs : slots ≤ ms) (hdg : decode cc pc = .ok (.ireturn, 1)) :
    W p l e R s m args below meth c H locs cells slots (MQ below (ct_Q D w0 s.heap.size post) args s mc ms (mp_A w0 s.heap.size)) (F0 m pc ls [.int v]) :=
  W.widen hc hs (W.iret hE.1.1.1 hE.1.1.2.1 hr (fun t ht _ => ct_fin hI hp ht) hI.2.1.2.2 hdg hk)
theorem ct_zret (hE : ct_E p m c cc nL s args c0 own D K n0 w0 A) (hI : mp_I D cl_all (mp_A w0 s.heap.size) s.heap w H locs) (hr : meth.sig.returnType = some .boolean) (hk : meth.locks = false) {v : Int32} (hv : v = 0 ∨ v = 1) (hp : post (some (.int v)) w) (hc : cells ≤ mc) (hs : slots ≤ ms) (hdg : decode cc pc = .ok (.ireturn, 1)) :
    W p l e R s m args below meth c H locs cells slots (MQ below (ct_Q D w0 s.heap.size post) args s mc ms (mp_A w0 s.heap.size)) (F0 m pc ls [.int v]) :=
  W.widen hc hs (W.zret hE.1.1.1 hE.1.1.2.1 hr (by rcases hv with rfl | rfl; exact narrow_b0; exact narrow_b1) (fun t ht _ => ct_fin hI hp ht) hI.2.1.2.2 hdg hk)
theorem ct_aret (hE : ct_E p m c cc nL s args c0 own D K n0 w0 A) (hI : mp_I D cl_all (mp_A w0 s.heap.size) s.heap w H locs) {rt : FieldType} (hr : meth.sig.returnType = some rt) (hrt : (∃ n, rt = .object n) ∨ ∃ t, rt = .array t) (hk : meth.locks = false) {a : Nat} (hp : post (some (.ref a)) w) (hc : cells ≤ mc) (hs : slots ≤ ms) (hdg : decode cc pc = .ok (.areturn, 1)) :
    W p l e R s m args below meth c H locs cells slots (MQ below (ct_Q D w0 s.heap.size post) args s mc ms (mp_A w0 s.heap.size)) (F0 m pc ls [.ref a]) :=
  W.widen hc hs (W.aret hE.1.1.1 hE.1.1.2.1 hr hrt (Or.inr ⟨a, rfl⟩) (fun t ht _ => ct_fin hI hp ht) hI.2.1.2.2 hdg hk)
/-- what a callee is given -/
theorem ct_at (hE : ct_E p m c cc nL s args c0 own D K n0 w0 A) (hI : mp_I D cl_all A s.heap w H locs) {U : State} (hU : U.heap = H) (hW : s.WarmedH U.vm) : ct_S n0 D K w U := by
  obtain ⟨⟨-, hK⟩, hS, hA⟩ := hE
  refine ⟨by rw [hU]; exact hI.P, va_K.moved hW.alike hK, hS.2.2.1.moved hW (fun q hq => ?_), fun a x h => hA a (hI.inA h), by rw [hU]; exact Nat.le_trans hS.2.2.2.2 hI.2.1.1⟩
  rw [hU]
  exact hI.2.1.2.1 q (Nat.lt_of_lt_of_le hq hS.2.2.2.2) (fun z => Nat.not_lt.mpr (hA q z) hq)
theorem ct_recv (hE : ct_E p m c cc nL s args c0 own D K n0 w0 A) (hI : mp_I D cl_all A s.heap w H locs) {b ci N : Nat} {fs : List Value} {C : String} {T : u_T} (he : w b = some (.inr (ci, fs))) (hc : cl_all[ci]? = some (C, T, N)) : ∃ cell : Cell, H[b]? = some cell ∧ cell.vm.isStatics = false ∧ s.vm.findClass C = some cell.cls := by
  obtain ⟨⟨ws, hP, hD, hcv⟩, -⟩ := hI
  obtain ⟨k, hk⟩ := hcv.at he
  exact va_recv hE.1.2 hP hc hk
theorem ct_on (hI : mp_I D cl_all A s.heap w H locs) {w' : mp_W} {st₀ t : State} {L : List Loc} (h0 : st₀.heap = H) (hP : mp_P D cl_all w' t.heap) (hd : ∀ a x, w' a = some x → mp_A w H.size a) (hF : va_F (mp_A w H.size) st₀ t) (hL : ∀ q ∈ L, mp_A w H.size q.base) : mp_I D cl_all A s.heap w' t.heap (locs ++ L) := by
  subst h0
  exact hI.back hP hd hF.1 hF.2 hL
variable {y : MethodName} {bytes : ByteArray} {maxL index n fr lo : Nat} {ret : Option FieldType} {b : Nat} {As st : List Value} {post' : Option Value → mp_W → Prop} {thr : String → mp_W → Prop}
theorem ct_cb (hE : ct_E p m c cc nL s args c0 own D K n0 w0 A) (h1 : Cond.methodLink own index y ∈ gw_l) (h4 : Cond.initialized y.cls ∈ gw_l) (h5 : Cond.code y bytes maxL ret ∈ gw_l)
    (hd : y.cls ≠ "java/lang/invoke/MethodHandle" ∧ y.cls ≠ "java/lang/invoke/VarHandle" ∧ (parseMethodDescriptor y.desc).map (fun d => d.parameters.length) = some n) (hR : fr + 1 ≤ R.frames ∧ 8 + (maxL + 11) + lo ≤ R.locals) :
    CallB R s args own index y bytes maxL ret (Cond.code y bytes maxL ret :: gw_l) { frames := fr, cells := mc, slots := ms, locals := lo } mc ms n :=
  callB_of n hE.1.1.2.2.2.2 (gw_sub h5) rfl rfl rfl (hE.1.1.2.2.2.2 _ (List.mem_cons_of_mem _ h4)) (hE.1.1.2.2.2.2 _ (List.mem_cons_of_mem _ h1)) hd hR
theorem ct_w (hE : ct_E p m c cc nL s args c0 own D K n0 w0 A) {x : Cond} (h : x ∈ gw_l) : x.before args s = true := hE.1.1.2.2.2.2 _ (List.mem_cons_of_mem _ h)
theorem ct_V (hE : ct_E p m c cc nL s args c0 own D K n0 w0 A) (hI : mp_I D cl_all A s.heap w H locs) (hM : ct_M l n0 D K y (Cond.code y bytes maxL ret) fr lo mc ms (.ref b :: As) w post')
    {ci N : Nat} {fs : List Value} {C : String} {T : u_T} (he : w b = some (.inr (ci, fs))) (hc : cl_all[ci]? = some (C, T, N))
    (h1 : Cond.methodLink own index y ∈ gw_l) (h2 : Cond.instanceMethod y ∈ gw_l) (h3 : Cond.selects C y y ∈ gw_l) (h4 : Cond.initialized y.cls ∈ gw_l) (h5 : Cond.code y bytes maxL ret ∈ gw_l)
    (hd : y.cls ≠ "java/lang/invoke/MethodHandle" ∧ y.cls ≠ "java/lang/invoke/VarHandle" ∧ (parseMethodDescriptor y.desc).map (fun d => d.parameters.length) = some n) (hR : fr + 1 ≤ R.frames ∧ 8 + (maxL + 11) + lo ≤ R.locals)
    (hn : As.length = n) (hls : ls.size = nL) (hst : st = As.reverse ++ .ref b :: rest) (hW : (rest.map fun v => v.category).sum ≤ 8) (hdg : decode cc pc = .ok (.invokevirtual index, 3)) (hf : cells + mc ≤ R.cells ∧ slots + ms ≤ R.slots)
    (kk : ∀ (v : Option Value) (w' : mp_W) (H1 : Heap) (locs1 : List Loc), post' v w' → mp_I D cl_all A s.heap w' H1 locs1 → W p l e R s m args below meth c H1 locs1 (cells + mc) (slots + ms) Q (F0 m (pc + 3) ls (v.toList ++ rest))) :
    W p l e R s m args below meth c H locs cells slots Q (F0 m pc ls st) := by
  have run := va_runV (g := F0 m pc ls st) (rest := rest) (locs := locs) (cells := cells) (slots := slots) (below := below) (meth := meth) (e := e) hE.1.1 (hM H.size) ⟨ct_cb hE h1 h4 h5 hd hR, ct_w hE h2, ct_w hE h3⟩ ⟨ct_blind, ct_recv hE hI he hc, fun U hU hW => ⟨rfl, by rw [hU], ct_at hE hI hU hW⟩⟩ rfl hn hls hst (lv_room hW) hdg hf
  intro T hT X
  obtain ⟨v, st0, t, T', L, h0, X', hL, e1, e2, ⟨v', w', ho, hp, hP, hdm, hF⟩, hg⟩ := run T hT X
  cases ho
  obtain ⟨tt, a1, b1⟩ := kk v w' t.heap (locs ++ L) hp (ct_on hI h0 hP hdm hF hL) T' e1 X'
  exact ⟨tt, hg _ a1, b1⟩
theorem ct_St (hE : ct_E p m c cc nL s args c0 own D K n0 w0 A) (hI : mp_I D cl_all A s.heap w H locs) (hM : ct_M l n0 D K y (Cond.code y bytes maxL ret) fr lo mc ms As w post')
    (h1 : Cond.methodLink own index y ∈ gw_l) (h2 : Cond.static y ∈ gw_l) (h4 : Cond.initialized y.cls ∈ gw_l) (h5 : Cond.code y bytes maxL ret ∈ gw_l)
    (hd : y.cls ≠ "java/lang/invoke/MethodHandle" ∧ y.cls ≠ "java/lang/invoke/VarHandle" ∧ (parseMethodDescriptor y.desc).map (fun d => d.parameters.length) = some n) (hR : fr + 1 ≤ R.frames ∧ 8 + (maxL + 11) + lo ≤ R.locals)
    (hn : As.length = n) (hls : ls.size = nL) (hst : st = As.reverse ++ rest) (hW : (rest.map fun v => v.category).sum ≤ 8) (hdg : decode cc pc = .ok (.invokestatic index, 3)) (hf : cells + mc ≤ R.cells ∧ slots + ms ≤ R.slots)
    (kk : ∀ (v : Option Value) (w' : mp_W) (H1 : Heap) (locs1 : List Loc), post' v w' → mp_I D cl_all A s.heap w' H1 locs1 → W p l e R s m args below meth c H1 locs1 (cells + mc) (slots + ms) Q (F0 m (pc + 3) ls (v.toList ++ rest))) :
    W p l e R s m args below meth c H locs cells slots Q (F0 m pc ls st) := by
  have run := va_runS (g := F0 m pc ls st) (rest := rest) (locs := locs) (cells := cells) (slots := slots) (below := below) (meth := meth) (e := e) hE.1.1 (hM H.size) ⟨ct_cb hE h1 h4 h5 hd hR, ct_w hE h2⟩ ⟨ct_blind, fun U hU hW => ⟨rfl, by rw [hU], ct_at hE hI hU hW⟩⟩ rfl hn hls hst (lv_room hW) hdg hf
  intro T hT X
  obtain ⟨v, st0, t, T', L, h0, X', hL, e1, e2, ⟨v', w', ho, hp, hP, hdm, hF⟩, hg⟩ := run T hT X
  cases ho
  obtain ⟨tt, a1, b1⟩ := kk v w' t.heap (locs ++ L) hp (ct_on hI h0 hP hdm hF hL) T' e1 X'
  exact ⟨tt, hg _ a1, b1⟩
theorem ct_In (hE : ct_E p m c cc nL s args c0 own D K n0 w0 A) (hI : mp_I D cl_all A s.heap w H locs) (hM : ct_M l n0 D K y (Cond.code y bytes maxL none) fr lo mc ms (.ref b :: As) w post') (hy1 : y.name = "<init>")
    (h1 : Cond.methodLink own index y ∈ gw_l) (h2 : Cond.instanceMethod y ∈ gw_l) (h4 : Cond.initialized y.cls ∈ gw_l) (h5 : Cond.code y bytes maxL none ∈ gw_l)
    (hd : y.cls ≠ "java/lang/invoke/MethodHandle" ∧ y.cls ≠ "java/lang/invoke/VarHandle" ∧ (parseMethodDescriptor y.desc).map (fun d => d.parameters.length) = some n) (hR : fr + 1 ≤ R.frames ∧ 8 + (maxL + 11) + lo ≤ R.locals)
    (hn : As.length = n) (hls : ls.size = nL) (hst : st = As.reverse ++ .ref b :: rest) (hW : (rest.map fun v => v.category).sum ≤ 8) (hdg : decode cc pc = .ok (.invokespecial index, 3)) (hf : cells + mc ≤ R.cells ∧ slots + ms ≤ R.slots)
    (kk : ∀ (v : Option Value) (w' : mp_W) (H1 : Heap) (locs1 : List Loc), post' v w' → mp_I D cl_all A s.heap w' H1 locs1 → W p l e R s m args below meth c H1 locs1 (cells + mc) (slots + ms) Q (F0 m (pc + 3) ls (v.toList ++ rest))) :
    W p l e R s m args below meth c H locs cells slots Q (F0 m pc ls st) := by
  have run := va_runI (g := F0 m pc ls st) (rest := rest) (b := b) (As := As) (locs := locs) (cells := cells) (slots := slots) (below := below) (meth := meth) (e := e) hE.1.1 (hM H.size) ⟨ct_cb hE h1 h4 h5 hd hR, hy1, ct_w hE h2⟩ ⟨ct_blind, fun U hU hW => ⟨rfl, by rw [hU], ct_at hE hI hU hW⟩⟩ rfl hn hls hst (lv_room hW) hdg hf
  intro T hT X
  obtain ⟨v, st0, t, T', L, h0, X', hL, e1, e2, ⟨v', w', ho, hp, hP, hdm, hF⟩, hg⟩ := run T hT X
  cases ho
  obtain ⟨tt, a1, b1⟩ := kk v w' t.heap (locs ++ L) hp (ct_on hI h0 hP hdm hF hL) T' e1 X'
  exact ⟨tt, hg _ a1, b1⟩
end CTR
end
section
/-! pictures: a Term of the row L, a Walk -/
def mp_off (S : List Nat) (w w' : mp_W) : Prop := ∀ q, q ∉ S → w' q = w q
theorem mp_off.rf (S : List Nat) (w : mp_W) : mp_off S w w := fun _ _ => rfl
theorem mp_off.up {S : List Nat} {w w' : mp_W} (h : mp_off S w w') {a : Nat} (ha : a ∈ S) (x : va_E) : mp_off S w (mp_up w' a x) := fun q hq => by
  rw [mp_up_ne _ _ (fun z => hq (by rw [z]; exact ha))]
  exact h q hq
theorem mp_off.tr {S : List Nat} {w w1 w2 : mp_W} (h : mp_off S w w1) (h2 : mp_off S w1 w2) : mp_off S w w2 := fun q hq => (h2 q hq).trans (h q hq)
theorem mp_off.mono {S S' : List Nat} {w w1 : mp_W} (h : mp_off S w w1) (hs : ∀ q ∈ S, q ∈ S') : mp_off S' w w1 := fun q hq => h q (fun z => hq (hs q z))
theorem gx_T {c0 : Cond} : ∀ x ∈ u_ws nm_T tf_T 2, x ∈ c0 :: gw_l := fun x h => List.mem_cons_of_mem _ (gu_T x h)
theorem gx_W {c0 : Cond} : ∀ x ∈ u_ws nm_W tf_W 5, x ∈ c0 :: gw_l := fun x h => List.mem_cons_of_mem _ (gu_W x h)
theorem gx_X {c0 : Cond} : ∀ x ∈ u_ws nm_X tf_X 3, x ∈ c0 :: gw_l := fun x h => List.mem_cons_of_mem _ (gu_X x h)
theorem gx_S {c0 : Cond} : ∀ x ∈ u_ws nm_S tf_S 5, x ∈ c0 :: gw_l := fun x h => List.mem_cons_of_mem _ (gu_S x h)
theorem gx_B {c0 : Cond} : ∀ x ∈ u_ws nm_B tf_B 3, x ∈ c0 :: gw_l := fun x h => List.mem_cons_of_mem _ (gu_B x h)
theorem gx_M {c0 : Cond} : ∀ x ∈ u_ws nm_M tf_M 15, x ∈ c0 :: gw_l := fun x h => List.mem_cons_of_mem _ (gu_M x h)
abbrev ob_T (ar : Nat) (n : Int32) : va_E := .inr (0, [.ref ar, .int n])
abbrev ob_I (K : Nat → ClassId) (cap : Nat) (f : Nat → Int32) : va_E := .inl (K 0, cap, .inl f)
/-- the array's first places hold the row -/
def pt_h (f : Nat → Int32) (L : List Int) : Prop := ∀ (i : Nat) (x : Int), L[i]? = some x → f i = ci_i x
def pt_T (K : Nat → ClassId) (w : mp_W) (t ar cap : Nat) (L : List Int) : Prop := ∃ f, w t = some (ob_T ar (nI L.length)) ∧ w ar = some (ob_I K cap f) ∧ (L.length ≤ cap → pt_h f L)
section KT
variable {l : Launch} {n0 : Nat} {D : va_G} {K : Nat → ClassId} {w : mp_W}
set_option maxRecDepth 100000 in
theorem kT_clear {t ar : Nat} {n : Int32} (hT : w t = some (ob_T ar n)) : ct_M l n0 D K yT_clear (Cond.code yT_clear cT_clear 1 none) 0 0 0 0 [.ref t] w (fun v w' => v = none ∧ w' = mp_up w t (ob_T ar 0)) := by
  refine ct_go (own := nm_T) (by decide) rfl (Nat.le_of_ble_eq_true rfl) ?_
  intro p e s m below meth c ls hE hI hr hk hn hl
  have hl : lv_has ls 1 [(0, .ref t)] := hl
  have hx := hE.1.1.1
  have hb := hE.1.1.2.1
  refine lv_aload_n hx hb dT_clear_0 rfl (lv_at hl 0 rfl) ?_
  refine lv_iconst (v := 0) hx hb dT_clear_1 (by decide) ?_
  refine mp_put hE.1 hI hT rfl gx_T ty_T to_T tn_T 1 (by decide) (List.mem_cons_of_mem _ gf_T15) rfl rfl rfl (Nat.le_of_ble_eq_true rfl) dT_clear_2 (fun H locs hI => ?_)
  exact ct_vret hE hI hr hk ⟨rfl, rfl⟩ (by decide) (by decide) dT_clear_5
set_option maxRecDepth 100000 in
theorem kT_first {t ar cap : Nat} {n : Int32} {f : Nat → Int32} (hT : w t = some (ob_T ar n)) (hA : w ar = some (ob_I K cap f)) (hc : 0 < cap) (hc2 : cap < 2147483648) : ct_M l n0 D K yT_first (Cond.code yT_first cT_first 1 (some .int)) 0 0 0 0 [.ref t] w (fun v w' => v = some (.int (f 0)) ∧ w' = w) := by
  refine ct_go (own := nm_T) (by decide) rfl (Nat.le_of_ble_eq_true rfl) ?_
  intro p e s m below meth c ls hE hI hr hk hn hl
  have hl : lv_has ls 1 [(0, .ref t)] := hl
  have hx := hE.1.1.1
  have hb := hE.1.1.2.1
  refine lv_aload_n hx hb dT_first_0 rfl (lv_at hl 0 rfl) ?_
  refine mp_get hE.1 hI hT rfl gx_T 0 (by decide) (List.mem_cons_of_mem _ gf_T9) rfl dT_first_1 ?_
  refine lv_iconst (v := 0) hx hb dT_first_4 (by decide) ?_
  refine mp_ild hE.1 hI hA 0 rfl (by have := ci_in hc hc2; exact this) dT_first_5 ?_
  exact ct_iret hE hI hr hk ⟨rfl, rfl⟩ (by decide) (by decide) dT_first_6
end KT
end
section
/-! Term: becomeFree, takes, add -/
theorem ct_nw {p : Program} {m : MethodId} {c : Code} {cc : ByteArray} {nL : Nat} {s : State} {args : Array Value} {c0 : Cond} {own : String} {D : va_G} {K : Nat → ClassId} {n0 : Nat} {w0 : mp_W} {A : Nat → Prop} (hE : ct_E p m c cc nL s args c0 own D K n0 w0 A) {q : String × Nat × String × String × String} (hq : q ∈ ct_fl) : va_Nw (.fieldLinkNest q.1 q.2.1 q.2.2.1 q.2.2.2.1 q.2.2.2.2 "BindingBench") s := hE.2.1.2.2.1.1 q hq
theorem pt_h.snoc {f : Nat → Int32} {L : List Int} (h : pt_h f L) (z : Int) : pt_h (upd f L.length (ci_i z)) (L ++ [z]) := by
  intro i x hx
  by_cases hi : i = L.length
  · subst hi
    have : z = x := by simpa using hx
    rw [pk_us, this]
  · rw [pk_un hi]
    refine h i x ?_
    have hl := (List.getElem?_eq_some_iff.mp hx).1
    rw [List.length_append, List.length_cons, List.length_nil] at hl
    rw [List.getElem?_append_left (by omega)] at hx
    exact hx
theorem pt_ne {w : mp_W} {a b : Nat} {x y : va_E} (ha : w a = some x) (hb : w b = some y) (h : x ≠ y) : a ≠ b := fun e => h (by rw [e, hb] at ha; exact (Option.some.inj ha).symm)
theorem pt_io {o : Nat × List Value} {z : ClassId × vp_A} : (Sum.inr o : va_E) ≠ Sum.inl z := fun h => by cases h
theorem pt_oi {o : Nat × List Value} {z : ClassId × vp_A} : (Sum.inl z : va_E) ≠ Sum.inr o := fun h => by cases h
section KT2
variable {l : Launch} {n0 : Nat} {D : va_G} {K : Nat → ClassId} {w : mp_W}
set_option maxRecDepth 100000 in
theorem kT_becomeFree {t ar cap : Nat} {n x : Int32} {f : Nat → Int32} (hT : w t = some (ob_T ar n)) (hA : w ar = some (ob_I K cap f)) (hc : 0 < cap) (hc2 : cap < 2147483648) : ct_M l n0 D K yT_becomeFree (Cond.code yT_becomeFree cT_becomeFree 2 none) 0 0 0 0 [.ref t, .int x] w (fun v w' => v = none ∧ w' = mp_up (mp_up w ar (ob_I K cap (upd f 0 x))) t (ob_T ar 1)) := by
  refine ct_go (own := nm_T) (by decide) rfl (Nat.le_of_ble_eq_true rfl) ?_
  intro p e s m below meth c ls hE hI hr hk hn hl
  have hx := hE.1.1.1
  have hb := hE.1.1.2.1
  have hl : lv_has ls 2 [(0, .ref t), (1, .int x)] := hl
  refine lv_aload_n hx hb dT_becomeFree_0 rfl (lv_at hl 0 rfl) ?_
  refine mp_get hE.1 hI hT rfl gx_T 0 (by decide) (List.mem_cons_of_mem _ gf_T9) rfl dT_becomeFree_1 ?_
  refine lv_iconst (v := 0) hx hb dT_becomeFree_4 (by decide) ?_
  refine lv_iload_n hx hb dT_becomeFree_5 rfl (lv_at hl 1 rfl) ?_
  refine mp_ist hE.1 hI hA 0 rfl (by have := ci_in hc hc2; exact this) dT_becomeFree_6 (fun H locs hI => ?_)
  have hT1 : mp_up w ar (ob_I K cap (upd f (0 : Int32).toNatClampNeg x)) t = some (ob_T ar n) := by rw [mp_up_ne _ _ (pt_ne hT hA pt_io)]; exact hT
  refine lv_aload_n hx hb dT_becomeFree_7 rfl (lv_at hl 0 rfl) ?_
  refine lv_iconst (v := 1) hx hb dT_becomeFree_8 (by decide) ?_
  refine mp_put hE.1 hI hT1 rfl gx_T ty_T to_T tn_T 1 (by decide) (List.mem_cons_of_mem _ gf_T15) rfl rfl rfl (Nat.le_of_ble_eq_true rfl) dT_becomeFree_9 (fun H locs hI => ?_)
  exact ct_vret hE hI hr hk ⟨rfl, rfl⟩ (by decide) (by decide) dT_becomeFree_12
set_option maxRecDepth 100000 in
theorem kT_takes {t ar cap : Nat} {n x : Int32} {f : Nat → Int32} (hT : w t = some (ob_T ar n)) (hA : w ar = some (ob_I K cap f)) : ct_M l n0 D K yT_takes (Cond.code yT_takes cT_takes 2 (some .boolean)) 0 0 0 0 [.ref t, .int x] w (fun v w' => v = some (.int (if nI cap - n < x then 0 else 1)) ∧ w' = w) := by
  refine ct_go (own := nm_T) (by decide) rfl (Nat.le_of_ble_eq_true rfl) ?_
  intro p e s m below meth c ls hE hI hr hk hn hl
  have hx := hE.1.1.1
  have hb := hE.1.1.2.1
  have hl : lv_has ls 2 [(0, .ref t), (1, .int x)] := hl
  refine lv_iload_n hx hb dT_takes_0 rfl (lv_at hl 1 rfl) ?_
  refine lv_aload_n hx hb dT_takes_1 rfl (lv_at hl 0 rfl) ?_
  refine mp_get hE.1 hI hT rfl gx_T 0 (by decide) (List.mem_cons_of_mem _ gf_T9) rfl dT_takes_2 ?_
  refine mp_len (v := nI cap) hE.1 hI hA 0 rfl rfl dT_takes_5 ?_
  refine lv_aload_n hx hb dT_takes_6 rfl (lv_at hl 0 rfl) ?_
  refine mp_get hE.1 hI hT rfl gx_T 1 (by decide) (List.mem_cons_of_mem _ gf_T15) rfl dT_takes_7 ?_
  refine lv_isub hx hb dT_takes_10 ?_
  refine lv_icmp_gt (tgt := 18) hx hb dT_takes_11 (by decide) (fun hc => ?_) (fun hc => ?_)
  · refine lv_iconst (v := 0) hx hb dT_takes_18 (by decide) ?_
    exact ct_zret hE hI hr hk (Or.inl rfl) ⟨by rw [if_pos hc], rfl⟩ (by decide) (by decide) dT_takes_19
  · refine lv_iconst (v := 1) hx hb dT_takes_14 (by decide) ?_
    refine lv_goto (tgt := 19) hx hb dT_takes_15 (by decide) ?_
    exact ct_zret hE hI hr hk (Or.inr rfl) ⟨by rw [if_neg hc], rfl⟩ (by decide) (by decide) dT_takes_19
set_option maxRecDepth 100000 in
theorem kT_add {t ar cap : Nat} {L : List Int} {z : Int} (hp : pt_T K w t ar cap L) (hc2 : cap < 2147483648) (hL : L.length < 2147483647) : ct_M l n0 D K yT_add (Cond.code yT_add cT_add 2 none) 0 0 0 0 [.ref t, .int (ci_i z)] w (fun v w' => v = none ∧ mp_off [t, ar] w w' ∧ pt_T K w' t ar cap (L ++ [z])) := by
  obtain ⟨f, hT, hA, hf⟩ := hp
  refine ct_go (own := nm_T) (by decide) rfl (Nat.le_of_ble_eq_true rfl) ?_
  intro p e s m below meth c ls hE hI hr hk hn hl
  have hx := hE.1.1.1
  have hb := hE.1.1.2.1
  have hl : lv_has ls 2 [(0, .ref t), (1, .int (ci_i z))] := hl
  have hne : t ≠ ar := pt_ne hT hA pt_io
  refine lv_aload_n hx hb dT_add_0 rfl (lv_at hl 0 rfl) ?_
  refine mp_get hE.1 hI hT rfl gx_T 1 (by decide) (List.mem_cons_of_mem _ gf_T15) rfl dT_add_1 ?_
  refine lv_aload_n hx hb dT_add_4 rfl (lv_at hl 0 rfl) ?_
  refine mp_get hE.1 hI hT rfl gx_T 0 (by decide) (List.mem_cons_of_mem _ gf_T9) rfl dT_add_5 ?_
  refine mp_len (v := nI cap) hE.1 hI hA 0 rfl rfl dT_add_8 ?_
  refine lv_icmp_ge (tgt := 22) hx hb dT_add_9 (by decide) (fun hc => ?_) (fun hc => ?_)
  · have hLc : cap ≤ L.length := (nI_leI hc2 (by omega)).mp hc
    refine lv_aload_n hx hb dT_add_22 rfl (lv_at hl 0 rfl) ?_
    refine lv_dup hx hb dT_add_23 rfl ?_
    refine mp_get hE.1 hI hT rfl gx_T 1 (by decide) (List.mem_cons_of_mem _ gf_T15) rfl dT_add_24 ?_
    refine lv_iconst (v := 1) hx hb dT_add_27 (by decide) ?_
    refine lv_iadd hx hb dT_add_28 ?_
    refine mp_put hE.1 hI hT rfl gx_T ty_T to_T tn_T 1 (by decide) (List.mem_cons_of_mem _ gf_T15) rfl rfl rfl (Nat.le_of_ble_eq_true rfl) dT_add_29 (fun H locs hI => ?_)
    refine ct_vret hE hI hr hk ⟨rfl, (mp_off.rf _ _).up (by simp) _, f, ?_, ?_, fun h => ?_⟩ (by decide) (by decide) dT_add_32
    · rw [mp_up_self, List.length_append, List.length_cons, List.length_nil, ← nI_1]
      rfl
    · rw [mp_up_ne _ _ (Ne.symm hne)]; exact hA
    · rw [List.length_append, List.length_cons, List.length_nil] at h; omega
  · have hLc : L.length < cap := Nat.lt_of_not_le (fun h => hc (nI_le h (by omega)))
    refine lv_aload_n hx hb dT_add_12 rfl (lv_at hl 0 rfl) ?_
    refine mp_get hE.1 hI hT rfl gx_T 0 (by decide) (List.mem_cons_of_mem _ gf_T9) rfl dT_add_13 ?_
    refine lv_aload_n hx hb dT_add_16 rfl (lv_at hl 0 rfl) ?_
    refine mp_get hE.1 hI hT rfl gx_T 1 (by decide) (List.mem_cons_of_mem _ gf_T15) rfl dT_add_17 ?_
    refine lv_iload_n hx hb dT_add_20 rfl (lv_at hl 1 rfl) ?_
    refine mp_ist hE.1 hI hA 0 rfl (vp_in_nI hLc (by omega)) dT_add_21 (fun H locs hI => ?_)
    rw [nI_clamp (show L.length < 2 ^ 31 by omega)] at hI
    have hT1 : mp_up w ar (ob_I K cap (upd f L.length (ci_i z))) t = some (ob_T ar (nI L.length)) := by rw [mp_up_ne _ _ hne]; exact hT
    refine lv_aload_n hx hb dT_add_22 rfl (lv_at hl 0 rfl) ?_
    refine lv_dup hx hb dT_add_23 rfl ?_
    refine mp_get hE.1 hI hT1 rfl gx_T 1 (by decide) (List.mem_cons_of_mem _ gf_T15) rfl dT_add_24 ?_
    refine lv_iconst (v := 1) hx hb dT_add_27 (by decide) ?_
    refine lv_iadd hx hb dT_add_28 ?_
    refine mp_put hE.1 hI hT1 rfl gx_T ty_T to_T tn_T 1 (by decide) (List.mem_cons_of_mem _ gf_T15) rfl rfl rfl (Nat.le_of_ble_eq_true rfl) dT_add_29 (fun H locs hI => ?_)
    refine ct_vret hE hI hr hk ⟨rfl, ((mp_off.rf _ _).up (by simp) _).up (by simp) _, upd f L.length (ci_i z), ?_, ?_, fun h => ?_⟩ (by decide) (by decide) dT_add_32
    · rw [mp_up_self, List.length_append, List.length_cons, List.length_nil, ← nI_1]
      rfl
    · rw [mp_up_ne _ _ (Ne.symm hne), mp_up_self]
    · exact (hf (by omega)).snoc z
end KT2
end
section
/-! Term: addAll, isRedex, kind -/
theorem pt_h.app {f g : Nat → Int32} {L O : List Int} {a d : Nat} (h : pt_h f L) (hg : pt_h g O) (hd : a + d ≤ O.length) : pt_h (va_cpy g f a L.length d) (L ++ (O.drop a).take d) := by
  intro i x hx
  by_cases hi : i < L.length
  · rw [pk_cpy_out (Or.inl hi)]
    rw [List.getElem?_append_left hi] at hx
    exact h i x hx
  · have hl := (List.getElem?_eq_some_iff.mp hx).1
    rw [List.length_append, List.length_take, List.length_drop] at hl
    rw [List.getElem?_append_right (by omega), List.getElem?_take_of_lt (by omega), List.getElem?_drop] at hx
    rw [pk_cpy_in (by omega) (by omega)]
    exact hg _ x hx
theorem ci_subN (a b : Nat) : nI a - nI b = ci_i ((a : Int) - b) := by rw [← ci_nat, ← ci_nat, ci_sub]
section KT3
variable {l : Launch} {n0 : Nat} {D : va_G} {K : Nat → ClassId} {w : mp_W}
set_option maxRecDepth 100000 in
theorem kT_addAll {t ar cap o oar ocap a b : Nat} {L O : List Int} {m' : Int32} {g : Nat → Int32} (hp : pt_T K w t ar cap L) (ho : w o = some (ob_T oar m')) (hoa : w oar = some (ob_I K ocap g)) (hg : pt_h g O) (hO : O.length ≤ ocap) (hab : a ≤ b) (hbO : b ≤ O.length) (hc2 : cap < 2147483648) (ho2 : ocap < 1073741824) (hL : L.length < 1073741824) :
    ct_M l n0 D K yT_addAll (Cond.code yT_addAll cT_addAll 4 none) 1 60 0 0 [.ref t, .ref o, .int (nI a), .int (nI b)] w (fun v w' => v = none ∧ mp_off [t, ar] w w' ∧ pt_T K w' t ar cap (L ++ (O.drop a).take (b - a))) := by
  obtain ⟨f, hT, hA, hf⟩ := hp
  have hne : t ≠ ar := pt_ne hT hA pt_io
  have hlen : (L ++ (O.drop a).take (b - a)).length = L.length + (b - a) := by
    rw [List.length_append, List.length_take, List.length_drop]
    omega
  refine ct_go (own := nm_T) (by decide) rfl (Nat.le_of_ble_eq_true rfl) ?_
  intro p e s m below meth c ls hE hI hr hk hn hl
  have hx := hE.1.1.1
  have hb := hE.1.1.2.1
  have hl : lv_has ls 4 [(0, .ref t), (1, .ref o), (2, .int (nI a)), (3, .int (nI b))] := hl
  refine lv_aload_n hx hb dT_addAll_0 rfl (lv_at hl 0 rfl) ?_
  refine lv_iload_n hx hb dT_addAll_1 rfl (lv_at hl 3 rfl) ?_
  refine lv_iload_n hx hb dT_addAll_2 rfl (lv_at hl 2 rfl) ?_
  refine lv_isub hx hb dT_addAll_3 ?_
  rw [pk_sub hab]
  refine ct_V (n := 1) hE hI (kT_takes hT hA) hT rfl gm_T38 gi_T_takes gs_T_T_takes gz_T gc_T_takes (by decide +kernel) ⟨Nat.le_of_ble_eq_true rfl, Nat.le_of_ble_eq_true rfl⟩ rfl hl.1 rfl (Nat.le_of_ble_eq_true rfl) dT_addAll_4 ⟨Nat.le_of_ble_eq_true rfl, Nat.le_of_ble_eq_true rfl⟩ (fun v w1 H locs hq hI => ?_)
  obtain ⟨rfl, hw⟩ := hq
  subst w1
  show W _ _ _ _ _ _ _ _ _ _ _ _ _ _ _ (F0 _ _ _ [.int _])
  refine lv_if_eq (tgt := 29) hx hb dT_addAll_7 (by decide) (fun hc => ?_) (fun hc => ?_)
  · have hcc : nI cap - nI L.length < nI (b - a) := by
      by_cases q : nI cap - nI L.length < nI (b - a)
      · exact q
      · rw [if_neg q] at hc
        exact absurd hc (by decide)
    rw [ci_subN, ← ci_nat, ci_lt (by omega) (by omega)] at hcc
    refine lv_aload_n hx hb dT_addAll_29 rfl (lv_at hl 0 rfl) ?_
    refine lv_dup hx hb dT_addAll_30 rfl ?_
    refine mp_get hE.1 hI hT rfl gx_T 1 (by decide) (List.mem_cons_of_mem _ gf_T15) rfl dT_addAll_31 ?_
    refine lv_iload_n hx hb dT_addAll_34 rfl (lv_at hl 3 rfl) ?_
    refine lv_iload_n hx hb dT_addAll_35 rfl (lv_at hl 2 rfl) ?_
    refine lv_isub hx hb dT_addAll_36 ?_
    rw [pk_sub hab]
    refine lv_iadd hx hb dT_addAll_37 ?_
    refine mp_put hE.1 hI hT rfl gx_T ty_T to_T tn_T 1 (by decide) (List.mem_cons_of_mem _ gf_T15) rfl rfl rfl (Nat.le_of_ble_eq_true rfl) dT_addAll_38 (fun H locs hI => ?_)
    refine ct_vret hE hI hr hk ⟨rfl, (mp_off.rf _ _).up (by simp) _, f, ?_, ?_, fun h => ?_⟩ (by decide) (by decide) dT_addAll_41
    · rw [mp_up_self, hlen, ← nI_add]
      rfl
    · rw [mp_up_ne _ _ (Ne.symm hne)]; exact hA
    · rw [hlen] at h; omega
  · have hcc : ¬ nI cap - nI L.length < nI (b - a) := by
      intro q
      rw [if_pos q] at hc
      exact hc rfl
    rw [ci_subN, ← ci_nat, ci_lt (by omega) (by omega)] at hcc
    refine lv_aload_n hx hb dT_addAll_10 rfl (lv_at hl 1 rfl) ?_
    refine mp_get hE.1 hI ho rfl gx_T 0 (by decide) (List.mem_cons_of_mem _ gf_T9) rfl dT_addAll_11 ?_
    refine lv_iload_n hx hb dT_addAll_14 rfl (lv_at hl 2 rfl) ?_
    refine lv_aload_n hx hb dT_addAll_15 rfl (lv_at hl 0 rfl) ?_
    refine mp_get hE.1 hI hT rfl gx_T 0 (by decide) (List.mem_cons_of_mem _ gf_T9) rfl dT_addAll_16 ?_
    refine lv_aload_n hx hb dT_addAll_19 rfl (lv_at hl 0 rfl) ?_
    refine mp_get hE.1 hI hT rfl gx_T 1 (by decide) (List.mem_cons_of_mem _ gf_T15) rfl dT_addAll_20 ?_
    refine lv_iload_n hx hb dT_addAll_23 rfl (lv_at hl 3 rfl) ?_
    refine lv_iload_n hx hb dT_addAll_24 rfl (lv_at hl 2 rfl) ?_
    refine lv_isub hx hb dT_addAll_25 ?_
    rw [pk_sub hab]
    have e1 : (nI a).toNatClampNeg = a := nI_clamp (by omega)
    have e2 : (nI L.length).toNatClampNeg = L.length := nI_clamp (by omega)
    have e3 : (nI (b - a)).toNatClampNeg = b - a := nI_clamp (by omega)
    refine mp_copy hE.1 hI hl.1 (List.mem_cons_of_mem _ gm_T23) (List.mem_cons_of_mem _ gv_Js_arraycopy) (List.mem_cons_of_mem _ gt_Js_arraycopy) (List.mem_cons_of_mem _ gz_Js) hoa hA 0 0 rfl rfl rfl (nI_pos (by omega)) (nI_pos (by omega)) (nI_pos (by omega)) (by rw [e1, e3]; omega) (by rw [e2, e3]; omega) (fun _ _ => rfl) (Nat.le_of_ble_eq_true rfl) (Nat.le_of_ble_eq_true rfl) dT_addAll_26 (fun H locs hI => ?_)
    rw [e1, e2, e3] at hI
    have hT1 : mp_up w ar (ob_I K cap (va_cpy g f a L.length (b - a))) t = some (ob_T ar (nI L.length)) := by rw [mp_up_ne _ _ hne]; exact hT
    refine lv_aload_n hx hb dT_addAll_29 rfl (lv_at hl 0 rfl) ?_
    refine lv_dup hx hb dT_addAll_30 rfl ?_
    refine mp_get hE.1 hI hT1 rfl gx_T 1 (by decide) (List.mem_cons_of_mem _ gf_T15) rfl dT_addAll_31 ?_
    refine lv_iload_n hx hb dT_addAll_34 rfl (lv_at hl 3 rfl) ?_
    refine lv_iload_n hx hb dT_addAll_35 rfl (lv_at hl 2 rfl) ?_
    refine lv_isub hx hb dT_addAll_36 ?_
    rw [pk_sub hab]
    refine lv_iadd hx hb dT_addAll_37 ?_
    refine mp_put hE.1 hI hT1 rfl gx_T ty_T to_T tn_T 1 (by decide) (List.mem_cons_of_mem _ gf_T15) rfl rfl rfl (Nat.le_of_ble_eq_true rfl) dT_addAll_38 (fun H locs hI => ?_)
    refine ct_vret hE hI hr hk ⟨rfl, ((mp_off.rf _ _).up (by simp) _).up (by simp) _, va_cpy g f a L.length (b - a), ?_, ?_, fun h => ?_⟩ (by decide) (by decide) dT_addAll_41
    · rw [mp_up_self, hlen, ← nI_add]
      rfl
    · rw [mp_up_ne _ _ (Ne.symm hne), mp_up_self]
    · exact (hf (by omega)).app hg (by omega)
end KT3
end
section
/-! Term: isRedex, kind, firstRedex, headRedex, redexes, places -/
theorem lp_1 {α : Type} {G : α → Prop} (I : Nat → α → Prop) (hs : ∀ k x, I k x → (∀ k' y, k' < k → I k' y → G y) → G x) (k : Nat) (x : α) (h : I k x) : G x := by
  induction k using Nat.strongRecOn generalizing x with
  | ind k ih => exact hs k x h (fun k' y hk hy => ih k' hk y hy)
theorem lp_3 {α β γ : Type} {G : α → β → γ → Prop} (I : Nat → α → β → γ → Prop) (hs : ∀ k x y z, I k x y z → (∀ k' x' y' z', k' < k → I k' x' y' z' → G x' y' z') → G x y z) (k : Nat) (x : α) (y : β) (z : γ) (h : I k x y z) : G x y z := by
  induction k using Nat.strongRecOn generalizing x y z with
  | ind k ih => exact hs k x y z h (fun k' x' y' z' hk hy => ih k' hk x' y' z' hy)
/-- a Term whose row L stands in its cells -/
def pt_R (K : Nat → ClassId) (w : mp_W) (t ar cap : Nat) (L : List Int) : Prop := pt_T K w t ar cap L ∧ L.length ≤ cap ∧ cap ≤ 2000 ∧ ∀ x ∈ L, -2 ≤ x ∧ x ≤ 1000000
theorem pt_R.out {K : Nat → ClassId} {w : mp_W} {t ar cap : Nat} {L : List Int} (h : pt_R K w t ar cap L) : ∃ f, w t = some (ob_T ar (nI L.length)) ∧ w ar = some (ob_I K cap f) ∧ pt_h f L ∧ L.length ≤ cap ∧ cap ≤ 2000 ∧ ∀ x ∈ L, -2 ≤ x ∧ x ≤ 1000000 := by
  obtain ⟨⟨f, h1, h2, h3⟩, h4, h5, h6⟩ := h
  exact ⟨f, h1, h2, h3 h4, h4, h5, h6⟩
def pt_rx (L : List Int) (i : Nat) : Prop := L[i]? = some (-1) ∧ L[i + 1]? = some (-2)
theorem pt_at {L : List Int} {i : Nat} (h : i < L.length) : ∃ x, L[i]? = some x ∧ x ∈ L := ⟨L[i], List.getElem?_eq_getElem h, List.getElem_mem h⟩
theorem ci_m1e {x : Int} (h : -2 ≤ x ∧ x ≤ 1000000) : ci_i x = -1 ↔ x = -1 := by rw [ci_m1, ci_eq (by omega) (by omega)]
theorem ci_m2e {x : Int} (h : -2 ≤ x ∧ x ≤ 1000000) : ci_i x = -2 ↔ x = -2 := by rw [ci_m2, ci_eq (by omega) (by omega)]
section KT4
variable {l : Launch} {n0 : Nat} {D : va_G} {K : Nat → ClassId} {w : mp_W}
set_option maxRecDepth 100000 in
theorem kT_isRedex {t ar cap i : Nat} {L : List Int} (hp : pt_R K w t ar cap L) (hi : i + 1 < L.length) : ct_M l n0 D K yT_isRedex (Cond.code yT_isRedex cT_isRedex 2 (some .boolean)) 0 0 0 0 [.ref t, .int (nI i)] w (fun v w' => w' = w ∧ ∃ r : Int32, v = some (.int r) ∧ ((r = 1 ∧ pt_rx L i) ∨ (r = 0 ∧ ¬ pt_rx L i))) := by
  obtain ⟨f, hT, hA, hf, hc, hc2, hx2⟩ := hp.out
  obtain ⟨x, e1, m1⟩ := pt_at (show i < L.length by omega)
  obtain ⟨z, e2, m2⟩ := pt_at hi
  have b1 := hx2 x m1
  have b2 := hx2 z m2
  refine ct_go (own := nm_T) (by decide) rfl (Nat.le_of_ble_eq_true rfl) ?_
  intro p e s m below meth c ls hE hI hr hk hn hl
  have hx := hE.1.1.1
  have hb := hE.1.1.2.1
  have hl : lv_has ls 2 [(0, .ref t), (1, .int (nI i))] := hl
  refine lv_aload_n hx hb dT_isRedex_0 rfl (lv_at hl 0 rfl) ?_
  refine mp_get hE.1 hI hT rfl gx_T 0 (by decide) (List.mem_cons_of_mem _ gf_T9) rfl dT_isRedex_1 ?_
  refine lv_iload_n hx hb dT_isRedex_4 rfl (lv_at hl 1 rfl) ?_
  refine mp_ild hE.1 hI hA 0 rfl (vp_in_nI (by omega) (by omega)) dT_isRedex_5 ?_
  rw [nI_clamp (by omega), hf i x e1]
  refine lv_iconst (v := (-1)) hx hb dT_isRedex_6 (by decide) ?_
  refine lv_icmp_ne (tgt := 27) hx hb dT_isRedex_7 (by decide) (fun hq => ?_) (fun hq => ?_)
  · refine lv_iconst (v := 0) hx hb dT_isRedex_27 (by decide) ?_
    refine ct_zret hE hI hr hk (Or.inl rfl) ⟨rfl, 0, rfl, Or.inr ⟨rfl, fun q => ?_⟩⟩ (by decide) (by decide) dT_isRedex_28
    have : x = -1 := by have := q.1; rw [e1] at this; exact Option.some.inj this
    exact hq ((ci_m1e b1).mpr this)
  · have q1 := (ci_m1e b1).mp hq
    refine lv_aload_n hx hb dT_isRedex_10 rfl (lv_at hl 0 rfl) ?_
    refine mp_get hE.1 hI hT rfl gx_T 0 (by decide) (List.mem_cons_of_mem _ gf_T9) rfl dT_isRedex_11 ?_
    refine lv_iload_n hx hb dT_isRedex_14 rfl (lv_at hl 1 rfl) ?_
    refine lv_iconst (v := 1) hx hb dT_isRedex_15 (by decide) ?_
    refine lv_iadd hx hb dT_isRedex_16 ?_
    rw [nI_1]
    refine mp_ild hE.1 hI hA 0 rfl (vp_in_nI (by omega) (by omega)) dT_isRedex_17 ?_
    rw [nI_clamp (by omega), hf _ z e2]
    refine lv_bipush (v := (-2)) hx hb dT_isRedex_18 (by decide) ?_
    refine lv_icmp_ne (tgt := 27) hx hb dT_isRedex_20 (by decide) (fun hq2 => ?_) (fun hq2 => ?_)
    · refine lv_iconst (v := 0) hx hb dT_isRedex_27 (by decide) ?_
      refine ct_zret hE hI hr hk (Or.inl rfl) ⟨rfl, 0, rfl, Or.inr ⟨rfl, fun q => ?_⟩⟩ (by decide) (by decide) dT_isRedex_28
      have : z = -2 := by have := q.2; rw [e2] at this; exact Option.some.inj this
      exact hq2 ((ci_m2e b2).mpr this)
    · have q2 := (ci_m2e b2).mp hq2
      refine lv_iconst (v := 1) hx hb dT_isRedex_23 (by decide) ?_
      refine lv_goto (tgt := 28) hx hb dT_isRedex_24 (by decide) ?_
      exact ct_zret hE hI hr hk (Or.inr rfl) ⟨rfl, 1, rfl, Or.inl ⟨rfl, by rw [e1, q1], by rw [e2, q2]⟩⟩ (by decide) (by decide) dT_isRedex_28
set_option maxRecDepth 100000 in
theorem kT_firstRedex {t ar cap a : Nat} {L : List Int} (hp : pt_R K w t ar cap L) (ha : a < 1000000) (h1 : 1 ≤ L.length) : ct_M l n0 D K yT_firstRedex (Cond.code yT_firstRedex cT_firstRedex 3 (some .int)) 1 30 0 0 [.ref t, .int (nI a)] w (fun v w' => w' = w ∧ ∃ r : Int32, v = some (.int r) ∧ ((∃ i, r = nI i ∧ a ≤ i ∧ pt_rx L i ∧ ∀ j, a ≤ j → j < i → ¬ pt_rx L j) ∨ (r = -1 ∧ ∀ j, a ≤ j → ¬ pt_rx L j))) := by
  obtain ⟨f, hT, hA, hf, hc, hc2, hx2⟩ := hp.out
  refine ct_go (own := nm_T) (by decide) rfl (Nat.le_of_ble_eq_true rfl) ?_
  intro p e s m below meth c ls hE hI hr hk hn hl
  have hx := hE.1.1.1
  have hb := hE.1.1.2.1
  have hl : lv_has ls 3 [(0, .ref t), (1, .int (nI a))] := hl
  refine lv_iload_n hx hb dT_firstRedex_0 rfl (lv_at hl 1 rfl) ?_
  refine lv_istore_n hx hb dT_firstRedex_1 rfl hl (by decide) rfl (fun ls hl => ?_)
  refine lp_3 (G := fun ls H locs => W p l e _ s m _ below meth c H locs 0 0 _ (F0 m 2 ls [])) (I := fun k ls H locs => ∃ i, k = L.length - i ∧ a ≤ i ∧ i < 1000000 + 2000 ∧ (∀ j, a ≤ j → j < i → ¬ pt_rx L j) ∧ lv_has ls 3 [(2, .int (nI i)), (0, .ref t), (1, .int (nI a))] ∧ mp_I D cl_all (mp_A w s.heap.size) s.heap w H locs) ?_ (L.length - a) ls _ _ ⟨a, rfl, Nat.le_refl _, by omega, fun j q1 q2 => by omega, hl, hI⟩
  clear hl hI
  intro k ls H locs hk0 ih
  obtain ⟨i, rfl, hai, hib, hno, hl, hI⟩ := hk0
  refine lv_iload_n hx hb dT_firstRedex_2 rfl (lv_at hl 0 rfl) ?_
  refine lv_aload_n hx hb dT_firstRedex_3 rfl (lv_at hl 1 rfl) ?_
  refine mp_get hE.1 hI hT rfl gx_T 1 (by decide) (List.mem_cons_of_mem _ gf_T15) rfl dT_firstRedex_4 ?_
  refine lv_iconst (v := 1) hx hb dT_firstRedex_7 (by decide) ?_
  refine lv_isub hx hb dT_firstRedex_8 ?_
  rw [show (1 : Int32) = nI 1 from rfl, pk_sub h1]
  refine lv_icmp_ge (tgt := 28) hx hb dT_firstRedex_9 (by decide) (fun hq => ?_) (fun hq => ?_)
  · have hq : L.length - 1 ≤ i := (nI_leI (by omega) (by omega)).mp hq
    refine lv_iconst (v := (-1)) hx hb dT_firstRedex_28 (by decide) ?_
    refine ct_iret hE hI hr hk ⟨rfl, -1, rfl, Or.inr ⟨rfl, fun j q1 q2 => ?_⟩⟩ (by decide) (by decide) dT_firstRedex_29
    have := (List.getElem?_eq_some_iff.mp q2.2).1
    exact hno j q1 (by omega) q2
  · have hq : i < L.length - 1 := Nat.lt_of_not_le (fun h => hq (nI_le h (by omega)))
    refine lv_aload_n hx hb dT_firstRedex_12 rfl (lv_at hl 1 rfl) ?_
    refine lv_iload_n hx hb dT_firstRedex_13 rfl (lv_at hl 0 rfl) ?_
    refine ct_V (n := 1) hE hI (kT_isRedex (i := i) hp (by omega)) hT rfl gm_T42 gi_T_isRedex gs_T_T_isRedex gz_T gc_T_isRedex (by decide +kernel) ⟨Nat.le_of_ble_eq_true rfl, Nat.le_of_ble_eq_true rfl⟩ rfl hl.1 rfl (Nat.le_of_ble_eq_true rfl) dT_firstRedex_14 ⟨Nat.le_of_ble_eq_true rfl, Nat.le_of_ble_eq_true rfl⟩ (fun v w1 H locs hq hI => ?_)
    obtain ⟨hw, r, rfl, hrx⟩ := hq
    subst w1
    show W _ _ _ _ _ _ _ _ _ _ _ _ _ _ _ (F0 _ _ _ [.int _])
    refine lv_if_eq (tgt := 22) hx hb dT_firstRedex_17 (by decide) (fun hz => ?_) (fun hz => ?_)
    · rcases hrx with ⟨e, -⟩ | ⟨-, hn0⟩
      · rw [e] at hz; exact absurd hz (by decide)
      refine lv_iinc (k := 0) (v := nI (i + 1)) hx hb dT_firstRedex_22 hl rfl (nI_1 i) (by decide) rfl (fun ls hl => ?_)
      refine lv_goto (tgt := 2) hx hb dT_firstRedex_25 (by decide) ?_
      refine ih (L.length - (i + 1)) ls H locs (by omega) ⟨i + 1, rfl, by omega, by omega, fun j q1 q2 => ?_, hl, hI⟩
      by_cases q : j = i
      · rw [q]; exact hn0
      · exact hno j q1 (by omega)
    · rcases hrx with ⟨-, hy⟩ | ⟨e, -⟩
      · skip
        refine lv_iload_n hx hb dT_firstRedex_20 rfl (lv_at hl 0 rfl) ?_
        exact ct_iret hE hI hr hk ⟨rfl, nI i, rfl, Or.inl ⟨i, rfl, hai, hy, hno⟩⟩ (by decide) (by decide) dT_firstRedex_21
      · exact absurd e hz
end KT4
end
section
/-! Term: headRedex, redexes, kind, places, endOf, equalTo -/
def nc_n (f : Nat → Bool) : Nat → Nat
  | 0 => 0
  | n + 1 => nc_n f n + (if f n = true then 1 else 0)
theorem nc_le (f : Nat → Bool) : ∀ n, nc_n f n ≤ n := by
  intro n
  induction n with
  | zero => exact Nat.le_refl _
  | succ n ih => show nc_n f n + _ ≤ n + 1; split <;> omega
theorem nc_t {f : Nat → Bool} {n : Nat} (h : f n = true) : nc_n f (n + 1) = nc_n f n + 1 := by show nc_n f n + (if f n = true then 1 else 0) = _; rw [if_pos h]
theorem nc_f {f : Nat → Bool} {n : Nat} (h : f n = false) : nc_n f (n + 1) = nc_n f n := by show nc_n f n + (if f n = true then 1 else 0) = _; rw [h]; rfl
def pt_rxb (L : List Int) (i : Nat) : Bool := decide (L[i]? = some (-1)) && decide (L[i + 1]? = some (-2))
theorem pt_rxb_t {L : List Int} {i : Nat} : pt_rxb L i = true ↔ pt_rx L i := by simp [pt_rxb, pt_rx]
theorem pt_rxb_f {L : List Int} {i : Nat} (h : ¬ pt_rx L i) : pt_rxb L i = false := by
  cases hb : pt_rxb L i with
  | false => rfl
  | true => exact absurd (pt_rxb_t.mp hb) h
theorem pt_drop {L : List Int} {i : Nat} {x : Int} (h : L[i]? = some x) : L.drop i = x :: L.drop (i + 1) := by
  obtain ⟨hl, hx⟩ := List.getElem?_eq_some_iff.mp h
  rw [List.drop_eq_getElem_cons hl, hx]
section KT5
variable {l : Launch} {n0 : Nat} {D : va_G} {K : Nat → ClassId} {w : mp_W}
set_option maxRecDepth 100000 in
theorem kT_headRedex {t ar cap : Nat} {L : List Int} (hp : pt_R K w t ar cap L) (h1 : 1 ≤ L.length) : ct_M l n0 D K yT_headRedex (Cond.code yT_headRedex cT_headRedex 2 (some .int)) 1 30 0 0 [.ref t] w (fun v w' => w' = w ∧ ∃ r : Int32, v = some (.int r) ∧ ((∃ i, r = nI i ∧ pt_rx L i ∧ ∀ j, j < i → L[j]? = some (-1) ∧ ¬ pt_rx L j) ∨ (r = -1 ∧ ∀ i, (∀ j, j < i → L[j]? = some (-1) ∧ ¬ pt_rx L j) → ¬ pt_rx L i))) := by
  obtain ⟨f, hT, hA, hf, hc, hc2, hx2⟩ := hp.out
  refine ct_go (own := nm_T) (by decide) rfl (Nat.le_of_ble_eq_true rfl) ?_
  intro p e s m below meth c ls hE hI hr hk hn hl
  have hx := hE.1.1.1
  have hb := hE.1.1.2.1
  have hl : lv_has ls 2 [(0, .ref t)] := hl
  refine lv_iconst (v := 0) hx hb dT_headRedex_0 (by decide) ?_
  refine lv_istore_n hx hb dT_headRedex_1 rfl hl (by decide) rfl (fun ls hl => ?_)
  refine lp_3 (G := fun ls H locs => W p l e _ s m _ below meth c H locs 0 0 _ (F0 m 2 ls [])) (I := fun k ls H locs => ∃ i, k = L.length - i ∧ i < 2001 ∧ (∀ j, j < i → L[j]? = some (-1) ∧ ¬ pt_rx L j) ∧ lv_has ls 2 [(1, .int (nI i)), (0, .ref t)] ∧ mp_I D cl_all (mp_A w s.heap.size) s.heap w H locs) ?_ (L.length - 0) ls _ _ ⟨0, rfl, by omega, fun j q => by omega, hl, hI⟩
  clear hl hI
  intro k ls H locs hk0 ih
  obtain ⟨i, rfl, hib, hno, hl, hI⟩ := hk0
  refine lv_iload_n hx hb dT_headRedex_2 rfl (lv_at hl 0 rfl) ?_
  refine lv_aload_n hx hb dT_headRedex_3 rfl (lv_at hl 1 rfl) ?_
  refine mp_get hE.1 hI hT rfl gx_T 1 (by decide) (List.mem_cons_of_mem _ gf_T15) rfl dT_headRedex_4 ?_
  refine lv_iconst (v := 1) hx hb dT_headRedex_7 (by decide) ?_
  refine lv_isub hx hb dT_headRedex_8 ?_
  rw [show (1 : Int32) = nI 1 from rfl, pk_sub h1]
  refine lv_icmp_ge (tgt := 38) hx hb dT_headRedex_9 (by decide) (fun hq => ?_) (fun hq => ?_)
  · have hq : L.length - 1 ≤ i := (nI_leI (by omega) (by omega)).mp hq
    refine lv_iconst (v := (-1)) hx hb dT_headRedex_38 (by decide) ?_
    refine ct_iret hE hI hr hk ⟨rfl, -1, rfl, Or.inr ⟨rfl, fun j q1 q2 => ?_⟩⟩ (by decide) (by decide) dT_headRedex_39
    have := (List.getElem?_eq_some_iff.mp q2.2).1
    exact (hno j (by omega)).2 q2
  · have hq : i < L.length - 1 := Nat.lt_of_not_le (fun h => hq (nI_le h (by omega)))
    obtain ⟨x, e1, m1⟩ := pt_at (show i < L.length by omega)
    refine lv_aload_n hx hb dT_headRedex_12 rfl (lv_at hl 1 rfl) ?_
    refine mp_get hE.1 hI hT rfl gx_T 0 (by decide) (List.mem_cons_of_mem _ gf_T9) rfl dT_headRedex_13 ?_
    refine lv_iload_n hx hb dT_headRedex_16 rfl (lv_at hl 0 rfl) ?_
    refine mp_ild hE.1 hI hA 0 rfl (vp_in_nI (by omega) (by omega)) dT_headRedex_17 ?_
    rw [nI_clamp (by omega), hf i x e1]
    refine lv_iconst (v := (-1)) hx hb dT_headRedex_18 (by decide) ?_
    refine lv_icmp_ne (tgt := 38) hx hb dT_headRedex_19 (by decide) (fun hy => ?_) (fun hy => ?_)
    · skip
      refine lv_iconst (v := (-1)) hx hb dT_headRedex_38 (by decide) ?_
      refine ct_iret hE hI hr hk ⟨rfl, -1, rfl, Or.inr ⟨rfl, fun j q1 q2 => ?_⟩⟩ (by decide) (by decide) dT_headRedex_39
      have hx1 : x ≠ -1 := fun z => hy ((ci_m1e (hx2 x m1)).mpr z)
      rcases Nat.lt_trichotomy j i with q | q | q
      · exact (hno j q).2 q2
      · subst q
        have := q2.1
        rw [e1] at this
        exact hx1 (Option.some.inj this)
      · have := (q1 i q).1
        rw [e1] at this
        exact hx1 (Option.some.inj this)
    · have hx1 : x = -1 := (ci_m1e (hx2 x m1)).mp hy
      refine lv_aload_n hx hb dT_headRedex_22 rfl (lv_at hl 1 rfl) ?_
      refine lv_iload_n hx hb dT_headRedex_23 rfl (lv_at hl 0 rfl) ?_
      refine ct_V (n := 1) hE hI (kT_isRedex (i := i) hp (by omega)) hT rfl gm_T42 gi_T_isRedex gs_T_T_isRedex gz_T gc_T_isRedex (by decide +kernel) ⟨Nat.le_of_ble_eq_true rfl, Nat.le_of_ble_eq_true rfl⟩ rfl hl.1 rfl (Nat.le_of_ble_eq_true rfl) dT_headRedex_24 ⟨Nat.le_of_ble_eq_true rfl, Nat.le_of_ble_eq_true rfl⟩ (fun v w1 H locs hq hI => ?_)
      obtain ⟨hw, r, rfl, hrx⟩ := hq
      subst w1
      show W _ _ _ _ _ _ _ _ _ _ _ _ _ _ _ (F0 _ _ _ [.int _])
      refine lv_if_eq (tgt := 32) hx hb dT_headRedex_27 (by decide) (fun hz => ?_) (fun hz => ?_)
      · rcases hrx with ⟨e, -⟩ | ⟨-, hn0⟩
        · rw [e] at hz; exact absurd hz (by decide)
        refine lv_iinc (k := 0) (v := nI (i + 1)) hx hb dT_headRedex_32 hl rfl (nI_1 i) (by decide) rfl (fun ls hl => ?_)
        refine lv_goto (tgt := 2) hx hb dT_headRedex_35 (by decide) ?_
        refine ih (L.length - (i + 1)) ls H locs (by omega) ⟨i + 1, rfl, by omega, fun j q2 => ?_, hl, hI⟩
        by_cases q : j = i
        · rw [q]; exact ⟨by rw [e1, hx1], hn0⟩
        · exact hno j (by omega)
      · rcases hrx with ⟨-, hy⟩ | ⟨e, -⟩
        · skip
          refine lv_iload_n hx hb dT_headRedex_30 rfl (lv_at hl 0 rfl) ?_
          exact ct_iret hE hI hr hk ⟨rfl, nI i, rfl, Or.inl ⟨i, rfl, hy, hno⟩⟩ (by decide) (by decide) dT_headRedex_31
        · exact absurd e hz
set_option maxRecDepth 100000 in
theorem kT_redexes {t ar cap : Nat} {L : List Int} (hp : pt_R K w t ar cap L) (h1 : 1 ≤ L.length) : ct_M l n0 D K yT_redexes (Cond.code yT_redexes cT_redexes 3 (some .int)) 1 30 0 0 [.ref t] w (fun v w' => w' = w ∧ v = some (.int (nI (nc_n (pt_rxb L) (L.length - 1))))) := by
  obtain ⟨f, hT, hA, hf, hc, hc2, hx2⟩ := hp.out
  refine ct_go (own := nm_T) (by decide) rfl (Nat.le_of_ble_eq_true rfl) ?_
  intro p e s m below meth c ls hE hI hr hk hn hl
  have hx := hE.1.1.1
  have hb := hE.1.1.2.1
  have hl : lv_has ls 3 [(0, .ref t)] := hl
  refine lv_iconst (v := 0) hx hb dT_redexes_0 (by decide) ?_
  refine lv_istore_n hx hb dT_redexes_1 rfl hl (by decide) rfl (fun ls hl => ?_)
  refine lv_iconst (v := 0) hx hb dT_redexes_2 (by decide) ?_
  refine lv_istore_n hx hb dT_redexes_3 rfl hl (by decide) rfl (fun ls hl => ?_)
  refine lp_3 (G := fun ls H locs => W p l e _ s m _ below meth c H locs 0 0 _ (F0 m 4 ls [])) (I := fun k ls H locs => ∃ i, k = L.length - i ∧ i ≤ L.length - 1 ∧ lv_has ls 3 [(2, .int (nI i)), (1, .int (nI (nc_n (pt_rxb L) i))), (0, .ref t)] ∧ mp_I D cl_all (mp_A w s.heap.size) s.heap w H locs) ?_ (L.length - 0) ls _ _ ⟨0, rfl, by omega, hl, hI⟩
  clear hl hI
  intro k ls H locs hk0 ih
  obtain ⟨i, rfl, hib, hl, hI⟩ := hk0
  refine lv_iload_n hx hb dT_redexes_4 rfl (lv_at hl 0 rfl) ?_
  refine lv_aload_n hx hb dT_redexes_5 rfl (lv_at hl 2 rfl) ?_
  refine mp_get hE.1 hI hT rfl gx_T 1 (by decide) (List.mem_cons_of_mem _ gf_T15) rfl dT_redexes_6 ?_
  refine lv_iconst (v := 1) hx hb dT_redexes_9 (by decide) ?_
  refine lv_isub hx hb dT_redexes_10 ?_
  rw [show (1 : Int32) = nI 1 from rfl, pk_sub h1]
  refine lv_icmp_ge (tgt := 31) hx hb dT_redexes_11 (by decide) (fun hq => ?_) (fun hq => ?_)
  · have hq : L.length - 1 ≤ i := (nI_leI (by omega) (by omega)).mp hq
    have : i = L.length - 1 := by omega
    subst this
    refine lv_iload_n hx hb dT_redexes_31 rfl (lv_at hl 1 rfl) ?_
    exact ct_iret hE hI hr hk ⟨rfl, rfl⟩ (by decide) (by decide) dT_redexes_32
  · have hq : i < L.length - 1 := Nat.lt_of_not_le (fun h => hq (nI_le h (by omega)))
    refine lv_aload_n hx hb dT_redexes_14 rfl (lv_at hl 2 rfl) ?_
    refine lv_iload_n hx hb dT_redexes_15 rfl (lv_at hl 0 rfl) ?_
    refine ct_V (n := 1) hE hI (kT_isRedex (i := i) hp (by omega)) hT rfl gm_T42 gi_T_isRedex gs_T_T_isRedex gz_T gc_T_isRedex (by decide +kernel) ⟨Nat.le_of_ble_eq_true rfl, Nat.le_of_ble_eq_true rfl⟩ rfl hl.1 rfl (Nat.le_of_ble_eq_true rfl) dT_redexes_16 ⟨Nat.le_of_ble_eq_true rfl, Nat.le_of_ble_eq_true rfl⟩ (fun v w1 H locs hq hI => ?_)
    obtain ⟨hw, r, rfl, hrx⟩ := hq
    subst w1
    show W _ _ _ _ _ _ _ _ _ _ _ _ _ _ _ (F0 _ _ _ [.int _])
    refine lv_if_eq (tgt := 25) hx hb dT_redexes_19 (by decide) (fun hz => ?_) (fun hz => ?_)
    · rcases hrx with ⟨e, -⟩ | ⟨-, hn0⟩
      · rw [e] at hz; exact absurd hz (by decide)
      refine lv_iinc (k := 0) (v := nI (i + 1)) hx hb dT_redexes_25 hl rfl (nI_1 i) (by decide) rfl (fun ls hl => ?_)
      refine lv_goto (tgt := 4) hx hb dT_redexes_28 (by decide) ?_
      exact ih (L.length - (i + 1)) ls H locs (by omega) ⟨i + 1, rfl, by omega, by rw [nc_f (pt_rxb_f hn0)]; exact hl, hI⟩
    · rcases hrx with ⟨-, hy⟩ | ⟨e, -⟩
      · skip
        refine lv_iinc (k := 1) (v := nI (nc_n (pt_rxb L) i + 1)) hx hb dT_redexes_22 hl rfl (nI_1 _) (by decide) rfl (fun ls hl => ?_)
        refine lv_iinc (k := 1) (v := nI (i + 1)) hx hb dT_redexes_25 hl rfl (nI_1 i) (by decide) rfl (fun ls hl => ?_)
        refine lv_goto (tgt := 4) hx hb dT_redexes_28 (by decide) ?_
        exact ih (L.length - (i + 1)) ls H locs (by omega) ⟨i + 1, rfl, by omega, by rw [nc_t (pt_rxb_t.mpr hy)]; exact hl, hI⟩
      · exact absurd e hz
set_option maxRecDepth 100000 in
theorem kT_kind {t ar cap : Nat} {L : List Int} {x : Int} (hp : pt_R K w t ar cap L) (e1 : L[0]? = some x) : ct_M l n0 D K yT_kind (Cond.code yT_kind cT_kind 1 (some .int)) 0 0 0 0 [.ref t] w (fun v w' => w' = w ∧ v = some (.int (if x = -1 then 1 else if x = -2 then 2 else 0))) := by
  obtain ⟨f, hT, hA, hf, hc, hc2, hx2⟩ := hp.out
  have m1 := hx2 x (List.mem_of_getElem? e1)
  have hl1 := (List.getElem?_eq_some_iff.mp e1).1
  refine ct_go (own := nm_T) (by decide) rfl (Nat.le_of_ble_eq_true rfl) ?_
  intro p e s m below meth c ls hE hI hr hk hn hl
  have hx := hE.1.1.1
  have hb := hE.1.1.2.1
  have hl : lv_has ls 1 [(0, .ref t)] := hl
  refine lv_aload_n hx hb dT_kind_0 rfl (lv_at hl 0 rfl) ?_
  refine mp_get hE.1 hI hT rfl gx_T 0 (by decide) (List.mem_cons_of_mem _ gf_T9) rfl dT_kind_1 ?_
  refine lv_iconst (v := 0) hx hb dT_kind_4 (by decide) ?_
  refine mp_ild hE.1 hI hA 0 rfl (vp_in_nI (n := 0) (by omega) (by omega)) dT_kind_5 ?_
  rw [show (0 : Int32).toNatClampNeg = 0 from rfl, hf 0 x e1]
  refine lv_iconst (v := (-1)) hx hb dT_kind_6 (by decide) ?_
  refine lv_icmp_ne (tgt := 12) hx hb dT_kind_7 (by decide) (fun hq => ?_) (fun hq => ?_)
  · have q1 : ¬ x = -1 := fun z => hq ((ci_m1e m1).mpr z)
    refine lv_aload_n hx hb dT_kind_12 rfl (lv_at hl 0 rfl) ?_
    refine mp_get hE.1 hI hT rfl gx_T 0 (by decide) (List.mem_cons_of_mem _ gf_T9) rfl dT_kind_13 ?_
    refine lv_iconst (v := 0) hx hb dT_kind_16 (by decide) ?_
    refine mp_ild hE.1 hI hA 0 rfl (vp_in_nI (n := 0) (by omega) (by omega)) dT_kind_17 ?_
    rw [show (0 : Int32).toNatClampNeg = 0 from rfl, hf 0 x e1]
    refine lv_bipush (v := (-2)) hx hb dT_kind_18 (by decide) ?_
    refine lv_icmp_ne (tgt := 27) hx hb dT_kind_20 (by decide) (fun hq2 => ?_) (fun hq2 => ?_)
    · have q2 : ¬ x = -2 := fun z => hq2 ((ci_m2e m1).mpr z)
      refine lv_iconst (v := 0) hx hb dT_kind_27 (by decide) ?_
      exact ct_iret hE hI hr hk ⟨rfl, by rw [if_neg q1, if_neg q2]⟩ (by decide) (by decide) dT_kind_28
    · have q2 : x = -2 := (ci_m2e m1).mp hq2
      refine lv_iconst (v := 2) hx hb dT_kind_23 (by decide) ?_
      refine lv_goto (tgt := 28) hx hb dT_kind_24 (by decide) ?_
      exact ct_iret hE hI hr hk ⟨rfl, by rw [if_neg q1, if_pos q2]⟩ (by decide) (by decide) dT_kind_28
  · have q1 : x = -1 := (ci_m1e m1).mp hq
    refine lv_iconst (v := 1) hx hb dT_kind_10 (by decide) ?_
    exact ct_iret hE hI hr hk ⟨rfl, by rw [if_pos q1]⟩ (by decide) (by decide) dT_kind_11
set_option maxRecDepth 100000 in
theorem kT_places {t ar cap : Nat} {L : List Int} {z : Int} (hp : pt_R K w t ar cap L) (hz : -1000000 ≤ z ∧ z ≤ 1000000) : ct_M l n0 D K yT_places (Cond.code yT_places cT_places 4 (some .int)) 0 0 0 0 [.ref t, .int (ci_i z)] w (fun v w' => w' = w ∧ v = some (.int (nI (nc_n (fun i => decide (L[i]? = some z)) L.length)))) := by
  obtain ⟨f, hT, hA, hf, hc, hc2, hx2⟩ := hp.out
  refine ct_go (own := nm_T) (by decide) rfl (Nat.le_of_ble_eq_true rfl) ?_
  intro p e s m below meth c ls hE hI hr hk hn hl
  have hx := hE.1.1.1
  have hb := hE.1.1.2.1
  have hl : lv_has ls 4 [(0, .ref t), (1, .int (ci_i z))] := hl
  refine lv_iconst (v := 0) hx hb dT_places_0 (by decide) ?_
  refine lv_istore_n hx hb dT_places_1 rfl hl (by decide) rfl (fun ls hl => ?_)
  refine lv_iconst (v := 0) hx hb dT_places_2 (by decide) ?_
  refine lv_istore_n hx hb dT_places_3 rfl hl (by decide) rfl (fun ls hl => ?_)
  refine lp_1 (G := fun ls => W p l e _ s m _ below meth c s.heap [] 0 0 _ (F0 m 4 ls [])) (I := fun k ls => ∃ i, k = L.length - i ∧ i ≤ L.length ∧ lv_has ls 4 [(3, .int (nI i)), (2, .int (nI (nc_n (fun i => decide (L[i]? = some z)) i))), (0, .ref t), (1, .int (ci_i z))]) ?_ (L.length - 0) ls ⟨0, rfl, by omega, hl⟩
  clear hl
  intro k ls hk0 ih
  obtain ⟨i, rfl, hib, hl⟩ := hk0
  refine lv_iload_n hx hb dT_places_4 rfl (lv_at hl 0 rfl) ?_
  refine lv_aload_n hx hb dT_places_5 rfl (lv_at hl 2 rfl) ?_
  refine mp_get hE.1 hI hT rfl gx_T 1 (by decide) (List.mem_cons_of_mem _ gf_T15) rfl dT_places_6 ?_
  refine lv_icmp_ge (tgt := 31) hx hb dT_places_9 (by decide) (fun hq => ?_) (fun hq => ?_)
  · have hq : L.length ≤ i := (nI_leI (by omega) (by omega)).mp hq
    have : i = L.length := by omega
    subst this
    refine lv_iload_n hx hb dT_places_31 rfl (lv_at hl 1 rfl) ?_
    exact ct_iret hE hI hr hk ⟨rfl, rfl⟩ (by decide) (by decide) dT_places_32
  · have hq : i < L.length := Nat.lt_of_not_le (fun h => hq (nI_le h (by omega)))
    obtain ⟨x, e1, m1⟩ := pt_at hq
    have b1 := hx2 x m1
    refine lv_aload_n hx hb dT_places_12 rfl (lv_at hl 2 rfl) ?_
    refine mp_get hE.1 hI hT rfl gx_T 0 (by decide) (List.mem_cons_of_mem _ gf_T9) rfl dT_places_13 ?_
    refine lv_iload_n hx hb dT_places_16 rfl (lv_at hl 0 rfl) ?_
    refine mp_ild hE.1 hI hA 0 rfl (vp_in_nI (by omega) (by omega)) dT_places_17 ?_
    rw [nI_clamp (by omega), hf i x e1]
    refine lv_iload_n hx hb dT_places_18 rfl (lv_at hl 3 rfl) ?_
    refine lv_icmp_ne (tgt := 25) hx hb dT_places_19 (by decide) (fun hy => ?_) (fun hy => ?_)
    · have hxz : ¬ L[i]? = some z := by rw [e1]; intro q; exact hy (by rw [Option.some.inj q])
      refine lv_iinc (k := 0) (v := nI (i + 1)) hx hb dT_places_25 hl rfl (nI_1 i) (by decide) rfl (fun ls hl => ?_)
      refine lv_goto (tgt := 4) hx hb dT_places_28 (by decide) ?_
      exact ih (L.length - (i + 1)) ls (by omega) ⟨i + 1, rfl, by omega, by rw [nc_f (decide_eq_false hxz)]; exact hl⟩
    · have hxz : L[i]? = some z := by rw [e1, (ci_eq (by omega) (by omega)).mp hy]
      refine lv_iinc (k := 1) (v := nI (nc_n (fun i => decide (L[i]? = some z)) i + 1)) hx hb dT_places_22 hl rfl (nI_1 _) (by decide) rfl (fun ls hl => ?_)
      refine lv_iinc (k := 1) (v := nI (i + 1)) hx hb dT_places_25 hl rfl (nI_1 i) (by decide) rfl (fun ls hl => ?_)
      refine lv_goto (tgt := 4) hx hb dT_places_28 (by decide) ?_
      exact ih (L.length - (i + 1)) ls (by omega) ⟨i + 1, rfl, by omega, by rw [nc_t (decide_eq_true hxz)]; exact hl⟩
end KT5
end
section
/-! Term: endOf, equalTo; Walk: start, pass -/
section KT6
variable {l : Launch} {n0 : Nat} {D : va_G} {K : Nat → ClassId} {w : mp_W}
set_option maxRecDepth 100000 in
theorem kT_endOf {t ar cap a : Nat} {L : List Int} (hp : pt_R K w t ar cap L) (ha : a ≤ 2000) : ct_M l n0 D K yT_endOf (Cond.code yT_endOf cT_endOf 4 (some .int)) 0 0 0 0 [.ref t, .int (nI a)] w (fun v w' => w' = w ∧ v = some (.int (nI (a + tm_en tm_kc (L.drop a) 1)))) := by
  obtain ⟨f, hT, hA, hf, hc, hc2, hx2⟩ := hp.out
  refine ct_go (own := nm_T) (by decide) rfl (Nat.le_of_ble_eq_true rfl) ?_
  intro p e s m below meth c ls hE hI hr hk hn hl
  have hx := hE.1.1.1
  have hb := hE.1.1.2.1
  have hl : lv_has ls 4 [(0, .ref t), (1, .int (nI a))] := hl
  refine lv_iconst (v := 1) hx hb dT_endOf_0 (by decide) ?_
  refine lv_istore_n hx hb dT_endOf_1 rfl hl (by decide) rfl (fun ls hl => ?_)
  refine lv_iload_n hx hb dT_endOf_2 rfl (lv_at hl 2 rfl) ?_
  refine lv_istore_n hx hb dT_endOf_3 rfl hl (by decide) rfl (fun ls hl => ?_)
  refine lp_1 (G := fun ls => W p l e _ s m _ below meth c s.heap [] 0 0 _ (F0 m 4 ls [])) (I := fun k ls => ∃ i d, k = 5000 - i ∧ a ≤ i ∧ i ≤ 2000 ∧ d ≤ i + 1 ∧ i + tm_en tm_kc (L.drop i) d = a + tm_en tm_kc (L.drop a) 1 ∧ lv_has ls 4 [(3, .int (nI i)), (2, .int (nI d)), (0, .ref t), (1, .int (nI a))]) ?_ (5000 - a) ls ⟨a, 1, rfl, by omega, ha, by omega, rfl, hl⟩
  clear hl
  intro k ls hk0 ih
  obtain ⟨i, d, rfl, hai, hib, hdi, heq, hl⟩ := hk0
  have fin : ∀ ls, (L.length ≤ i ∨ d = 0) → lv_has ls 4 [(3, .int (nI i)), (2, .int (nI d)), (0, .ref t), (1, .int (nI a))] → W p l e { frames := 0, cells := 0, slots := 0, locals := 0 } s m ([Value.ref t, .int (nI a)] : List Value).toArray below meth c s.heap [] 0 0 (MQ below (ct_Q D w s.heap.size (fun v w' => w' = w ∧ v = some (.int (nI (a + tm_en tm_kc (L.drop a) 1))))) ([Value.ref t, .int (nI a)] : List Value).toArray s 0 0 (mp_A w s.heap.size)) (F0 m 52 ls []) := by
    intro ls hq hl
    have h0 : tm_en tm_kc (L.drop i) d = 0 := by
      rcases hq with hq | hq
      · rw [List.drop_eq_nil_of_le hq]; rfl
      · rw [hq, tm_en_0]
    refine lv_iload_n hx hb dT_endOf_52 rfl (lv_at hl 0 rfl) ?_
    exact ct_iret hE hI hr hk ⟨rfl, by rw [← heq, h0, Nat.add_zero]⟩ (by decide) (by decide) dT_endOf_53
  refine lv_iload_n hx hb dT_endOf_4 rfl (lv_at hl 0 rfl) ?_
  refine lv_aload_n hx hb dT_endOf_5 rfl (lv_at hl 2 rfl) ?_
  refine mp_get hE.1 hI hT rfl gx_T 1 (by decide) (List.mem_cons_of_mem _ gf_T15) rfl dT_endOf_6 ?_
  refine lv_icmp_ge (tgt := 52) hx hb dT_endOf_9 (by decide) (fun hq => ?_) (fun hq => ?_)
  · have hq : L.length ≤ i := (nI_leI (by omega) (by omega)).mp hq
    exact fin ls (Or.inl hq) hl
  · have hq : i < L.length := Nat.lt_of_not_le (fun h => hq (nI_le h (by omega)))
    obtain ⟨x, e1, m1⟩ := pt_at hq
    have b1 := hx2 x m1
    refine lv_iload_n hx hb dT_endOf_12 rfl (lv_at hl 1 rfl) ?_
    refine lv_if_le (tgt := 52) hx hb dT_endOf_13 (by decide) (fun hd => ?_) (fun hd => ?_)
    · have hd0 : d = 0 := by
        rcases Nat.eq_zero_or_pos d with h | h
        · exact h
        · exact absurd hd (nI_nle h (by omega))
      exact fin ls (Or.inr hd0) hl
    · have hd0 : 0 < d := Nat.pos_of_ne_zero (fun h => hd (by rw [h]; decide))
      obtain ⟨d, rfl⟩ : ∃ d', d = d' + 1 := ⟨d - 1, by omega⟩
      rw [pt_drop e1] at heq
      have heq : i + (1 + tm_en tm_kc (L.drop (i + 1)) (d + (tm_kc x).toNat)) = a + tm_en tm_kc (L.drop a) 1 := heq
      refine lv_aload_n hx hb dT_endOf_16 rfl (lv_at hl 2 rfl) ?_
      refine mp_get hE.1 hI hT rfl gx_T 0 (by decide) (List.mem_cons_of_mem _ gf_T9) rfl dT_endOf_17 ?_
      refine lv_iload_n hx hb dT_endOf_20 rfl (lv_at hl 0 rfl) ?_
      refine mp_ild hE.1 hI hA 0 rfl (vp_in_nI (by omega) (by omega)) dT_endOf_21 ?_
      rw [nI_clamp (by omega), hf i x e1]
      refine lv_iconst (v := (-1)) hx hb dT_endOf_22 (by decide) ?_
      refine lv_icmp_ne (tgt := 32) hx hb dT_endOf_23 (by decide) (fun h1 => ?_) (fun h1 => ?_)
      · have h1 : ¬ x = -1 := fun z => h1 ((ci_m1e b1).mpr z)
        refine lv_aload_n hx hb dT_endOf_32 rfl (lv_at hl 2 rfl) ?_
        refine mp_get hE.1 hI hT rfl gx_T 0 (by decide) (List.mem_cons_of_mem _ gf_T9) rfl dT_endOf_33 ?_
        refine lv_iload_n hx hb dT_endOf_36 rfl (lv_at hl 0 rfl) ?_
        refine mp_ild hE.1 hI hA 0 rfl (vp_in_nI (by omega) (by omega)) dT_endOf_37 ?_
        rw [nI_clamp (by omega), hf i x e1]
        refine lv_bipush (v := (-2)) hx hb dT_endOf_38 (by decide) ?_
        refine lv_icmp_eq (tgt := 46) hx hb dT_endOf_40 (by decide) (fun h2 => ?_) (fun h2 => ?_)
        · have h2 : x = -2 := (ci_m2e b1).mp h2
          refine lv_iinc (k := 0) (v := nI (i + 1)) hx hb dT_endOf_46 hl rfl (nI_1 i) (by decide) rfl (fun ls hl => ?_)
          refine lv_goto (tgt := 4) hx hb dT_endOf_49 (by decide) ?_
          refine ih _ ls (by omega) ⟨i + 1, d + 1, rfl, by omega, by omega, by omega, ?_, hl⟩
          rw [h2] at heq
          have : (tm_kc (-2)).toNat = 1 := by decide
          rw [this] at heq
          omega
        · have h2 : ¬ x = -2 := fun z => h2 ((ci_m2e b1).mpr z)
          refine lv_iinc (k := 1) (v := nI d) hx hb dT_endOf_43 hl rfl (by show nI (d + 1) + Int32.ofInt (-1) = nI d; exact pk_m1 d) (by decide) rfl (fun ls hl => ?_)
          refine lv_iinc (k := 1) (v := nI (i + 1)) hx hb dT_endOf_46 hl rfl (nI_1 i) (by decide) rfl (fun ls hl => ?_)
          refine lv_goto (tgt := 4) hx hb dT_endOf_49 (by decide) ?_
          refine ih _ ls (by omega) ⟨i + 1, d, rfl, by omega, by omega, by omega, ?_, hl⟩
          have : (tm_kc x).toNat = 0 := by simp [tm_kc, h1, h2]
          rw [this] at heq
          simp only [Nat.add_zero] at heq
          omega
      · have h1 : x = -1 := (ci_m1e b1).mp h1
        refine lv_iinc (k := 1) (v := nI (d + 2)) hx hb dT_endOf_26 hl rfl (nI_1 (d + 1)) (by decide) rfl (fun ls hl => ?_)
        refine lv_goto (tgt := 46) hx hb dT_endOf_29 (by decide) ?_
        refine lv_iinc (k := 1) (v := nI (i + 1)) hx hb dT_endOf_46 hl rfl (nI_1 i) (by decide) rfl (fun ls hl => ?_)
        refine lv_goto (tgt := 4) hx hb dT_endOf_49 (by decide) ?_
        refine ih _ ls (by omega) ⟨i + 1, d + 2, rfl, by omega, by omega, by omega, ?_, hl⟩
        rw [h1] at heq
        have : (tm_kc (-1)).toNat = 2 := by decide
        rw [this] at heq
        omega
set_option maxRecDepth 100000 in
theorem kT_equalTo {t ar cap o oar ocap : Nat} {L O : List Int} (hp : pt_R K w t ar cap L) (ho : pt_R K w o oar ocap O) : ct_M l n0 D K yT_equalTo (Cond.code yT_equalTo cT_equalTo 3 (some .boolean)) 0 0 0 0 [.ref t, .ref o] w (fun v w' => w' = w ∧ v = some (.int (if L = O then 1 else 0))) := by
  obtain ⟨f, hT, hA, hf, hc, hc2, hx2⟩ := hp.out
  obtain ⟨g, hoT, hoA, hg, hoc, hoc2, hox2⟩ := ho.out
  refine ct_go (own := nm_T) (by decide) rfl (Nat.le_of_ble_eq_true rfl) ?_
  intro p e s m below meth c ls hE hI hr hk hn hl
  have hx := hE.1.1.1
  have hb := hE.1.1.2.1
  have hl : lv_has ls 3 [(0, .ref t), (1, .ref o)] := hl
  refine lv_aload_n hx hb dT_equalTo_0 rfl (lv_at hl 0 rfl) ?_
  refine mp_get hE.1 hI hT rfl gx_T 1 (by decide) (List.mem_cons_of_mem _ gf_T15) rfl dT_equalTo_1 ?_
  refine lv_aload_n hx hb dT_equalTo_4 rfl (lv_at hl 1 rfl) ?_
  refine mp_get hE.1 hI hoT rfl gx_T 1 (by decide) (List.mem_cons_of_mem _ gf_T15) rfl dT_equalTo_5 ?_
  refine lv_icmp_eq (tgt := 13) hx hb dT_equalTo_8 (by decide) (fun hq => ?_) (fun hq => ?_)
  · have hlen : L.length = O.length := (nI_eq (by omega) (by omega)).mp hq
    refine lv_iconst (v := 0) hx hb dT_equalTo_13 (by decide) ?_
    refine lv_istore_n hx hb dT_equalTo_14 rfl hl (by decide) rfl (fun ls hl => ?_)
    refine lp_1 (G := fun ls => W p l e _ s m _ below meth c s.heap [] 0 0 _ (F0 m 15 ls [])) (I := fun k ls => ∃ i, k = L.length - i ∧ i ≤ L.length ∧ (∀ j, j < i → L[j]? = O[j]?) ∧ lv_has ls 3 [(2, .int (nI i)), (0, .ref t), (1, .ref o)]) ?_ (L.length - 0) ls ⟨0, rfl, by omega, fun j q => by omega, hl⟩
    clear hl
    intro k ls hk0 ih
    obtain ⟨i, rfl, hib, hall, hl⟩ := hk0
    refine lv_iload_n hx hb dT_equalTo_15 rfl (lv_at hl 0 rfl) ?_
    refine lv_aload_n hx hb dT_equalTo_16 rfl (lv_at hl 1 rfl) ?_
    refine mp_get hE.1 hI hT rfl gx_T 1 (by decide) (List.mem_cons_of_mem _ gf_T15) rfl dT_equalTo_17 ?_
    refine lv_icmp_ge (tgt := 46) hx hb dT_equalTo_20 (by decide) (fun hz => ?_) (fun hz => ?_)
    · have hz : L.length ≤ i := (nI_leI (by omega) (by omega)).mp hz
      refine lv_iconst (v := 1) hx hb dT_equalTo_46 (by decide) ?_
      refine ct_zret hE hI hr hk (Or.inr rfl) ⟨rfl, ?_⟩ (by decide) (by decide) dT_equalTo_47
      rw [if_pos]
      apply List.ext_getElem?
      intro j
      by_cases hj : j < i
      · exact hall j hj
      · rw [List.getElem?_eq_none (by omega), List.getElem?_eq_none (by omega)]
    · have hz : i < L.length := Nat.lt_of_not_le (fun h => hz (nI_le h (by omega)))
      obtain ⟨x, e1, m1⟩ := pt_at hz
      obtain ⟨y, e2, m2⟩ := pt_at (show i < O.length by omega)
      have b1 := hx2 x m1
      have b2 := hox2 y m2
      refine lv_aload_n hx hb dT_equalTo_23 rfl (lv_at hl 1 rfl) ?_
      refine mp_get hE.1 hI hT rfl gx_T 0 (by decide) (List.mem_cons_of_mem _ gf_T9) rfl dT_equalTo_24 ?_
      refine lv_iload_n hx hb dT_equalTo_27 rfl (lv_at hl 0 rfl) ?_
      refine mp_ild hE.1 hI hA 0 rfl (vp_in_nI (by omega) (by omega)) dT_equalTo_28 ?_
      rw [nI_clamp (by omega), hf i x e1]
      refine lv_aload_n hx hb dT_equalTo_29 rfl (lv_at hl 2 rfl) ?_
      refine mp_get hE.1 hI hoT rfl gx_T 0 (by decide) (List.mem_cons_of_mem _ gf_T9) rfl dT_equalTo_30 ?_
      refine lv_iload_n hx hb dT_equalTo_33 rfl (lv_at hl 0 rfl) ?_
      refine mp_ild hE.1 hI hoA 0 rfl (vp_in_nI (by omega) (by omega)) dT_equalTo_34 ?_
      rw [nI_clamp (by omega), hg i y e2]
      refine lv_icmp_eq (tgt := 40) hx hb dT_equalTo_35 (by decide) (fun hy => ?_) (fun hy => ?_)
      · have hxy : x = y := (ci_eq (by omega) (by omega)).mp hy
        refine lv_iinc (k := 0) (v := nI (i + 1)) hx hb dT_equalTo_40 hl rfl (nI_1 i) (by decide) rfl (fun ls hl => ?_)
        refine lv_goto (tgt := 15) hx hb dT_equalTo_43 (by decide) ?_
        refine ih _ ls (by omega) ⟨i + 1, rfl, by omega, fun j q => ?_, hl⟩
        by_cases hj : j = i
        · rw [hj, e1, e2, hxy]
        · exact hall j (by omega)
      · refine lv_iconst (v := 0) hx hb dT_equalTo_38 (by decide) ?_
        refine ct_zret hE hI hr hk (Or.inl rfl) ⟨rfl, ?_⟩ (by decide) (by decide) dT_equalTo_39
        rw [if_neg]
        intro q
        rw [q, e2] at e1
        exact hy (by rw [Option.some.inj e1])
  · refine lv_iconst (v := 0) hx hb dT_equalTo_11 (by decide) ?_
    refine ct_zret hE hI hr hk (Or.inl rfl) ⟨rfl, ?_⟩ (by decide) (by decide) dT_equalTo_12
    rw [if_neg]
    intro q
    exact hq (by rw [q])
/-- a Walk: p for an (a b), q for a FUNCTION; what waits, the count -/
abbrev ob_W (p q : Nat) (ka : Nat) (h c : Int32) : va_E := .inr (2, [.int (nI p), .int (nI q), .ref ka, .int h, .int c])
def pt_W (K : Nat → ClassId) (w : mp_W) (k ka fa ff : Nat) (u : List Nat × Nat) : Prop := ∃ f, w k = some (ob_W fa ff ka (nI u.1.length) (nI u.2)) ∧ w ka = some (ob_I K 150 f) ∧ u.1.length ≤ 150 ∧ ∀ i x, u.1.reverse[i]? = some x → f i = nI x
set_option maxRecDepth 100000 in
theorem kW_start {k ka fa ff : Nat} {u : List Nat × Nat} (hp : pt_W K w k ka fa ff u) : ct_M l n0 D K yW_start (Cond.code yW_start cW_start 1 none) 0 0 0 0 [.ref k] w (fun v w' => v = none ∧ mp_off [k, ka] w w' ∧ pt_W K w' k ka fa ff ([], 0)) := by
  obtain ⟨f, hT, hA, hh, hf⟩ := hp
  have hne : k ≠ ka := pt_ne hT hA pt_io
  refine ct_go (own := nm_W) (by decide) rfl (Nat.le_of_ble_eq_true rfl) ?_
  intro p e s m below meth c ls hE hI hr hk hn hl
  have hx := hE.1.1.1
  have hb := hE.1.1.2.1
  have hl : lv_has ls 1 [(0, .ref k)] := hl
  refine lv_aload_n hx hb dW_start_0 rfl (lv_at hl 0 rfl) ?_
  refine lv_iconst (v := 0) hx hb dW_start_1 (by decide) ?_
  refine mp_put hE.1 hI hT rfl gx_W ty_W to_W tn_W 3 (by decide) (List.mem_cons_of_mem _ gf_W22) rfl rfl rfl (Nat.le_of_ble_eq_true rfl) dW_start_2 (fun H locs hI => ?_)
  have hT1 : mp_up w k (ob_W fa ff ka 0 (nI u.2)) k = some (ob_W fa ff ka 0 (nI u.2)) := mp_up_self ..
  refine lv_aload_n hx hb dW_start_5 rfl (lv_at hl 0 rfl) ?_
  refine lv_iconst (v := 0) hx hb dW_start_6 (by decide) ?_
  refine mp_put hE.1 hI hT1 rfl gx_W ty_W to_W tn_W 4 (by decide) (List.mem_cons_of_mem _ gf_W25) rfl rfl rfl (Nat.le_of_ble_eq_true rfl) dW_start_7 (fun H locs hI => ?_)
  refine ct_vret hE hI hr hk ⟨rfl, ((mp_off.rf _ _).up (by simp) _).up (by simp) _, f, ?_, ?_, by simp, fun i x h => ?_⟩ (by decide) (by decide) dW_start_10
  · rw [mp_up_self]; rfl
  · rw [mp_up_ne _ _ (Ne.symm hne), mp_up_ne _ _ (Ne.symm hne)]; exact hA
  · simp at h
set_option maxRecDepth 100000 in
theorem kW_pass {k ka fa ff : Nat} {u : List Nat × Nat} {x : Int} (hp : pt_W K w k ka fa ff u) (hx0 : -2 ≤ x ∧ x ≤ 1000000) (hb1 : u.2 + fa < 1073741824) : ct_M l n0 D K yW_pass (Cond.code yW_pass cW_pass 2 none) 0 0 0 0 [.ref k, .int (ci_i x)] w (fun v w' => v = none ∧ mp_off [k, ka] w w' ∧ pt_W K w' k ka fa ff (tm_wk fa ff u x)) := by
  obtain ⟨f, hT, hA, hh, hf⟩ := hp
  have hne : k ≠ ka := pt_ne hT hA pt_io
  obtain ⟨h, c0⟩ := u
  refine ct_go (own := nm_W) (by decide) rfl (Nat.le_of_ble_eq_true rfl) ?_
  intro p e s m below meth c ls hE hI hr hk hn hl
  have hx := hE.1.1.1
  have hb := hE.1.1.2.1
  have hl : lv_has ls 2 [(0, .ref k), (1, .int (ci_i x))] := hl
  refine lv_iload_n hx hb dW_pass_0 rfl (lv_at hl 1 rfl) ?_
  refine lv_iconst (v := (-1)) hx hb dW_pass_1 (by decide) ?_
  refine lv_icmp_ne (tgt := 56) hx hb dW_pass_2 (by decide) (fun h1 => ?_) (fun h1 => ?_)
  · have h1 : ¬ x = -1 := fun z => h1 ((ci_m1e hx0).mpr z)
    refine lv_iload_n hx hb dW_pass_56 rfl (lv_at hl 1 rfl) ?_
    refine lv_bipush (v := (-2)) hx hb dW_pass_57 (by decide) ?_
    refine lv_icmp_ne (tgt := 78) hx hb dW_pass_59 (by decide) (fun h2 => ?_) (fun h2 => ?_)
    · have h2 : ¬ x = -2 := fun z => h2 ((ci_m2e hx0).mpr z)
      have hwk : tm_wk fa ff (h, c0) x = tm_pop h := by simp [tm_wk, h1, h2]
      refine lv_aload_n hx hb dW_pass_78 rfl (lv_at hl 0 rfl) ?_
      refine mp_get hE.1 hI hT rfl gx_W 3 (by decide) (List.mem_cons_of_mem _ gf_W22) rfl dW_pass_79 ?_
      refine lv_if_le (tgt := 111) hx hb dW_pass_82 (by decide) (fun h3 => ?_) (fun h3 => ?_)
      · have h3 : h = [] := by
          cases h with
          | nil => rfl
          | cons a b => exact absurd h3 (nI_nle (by simp) (by simp at hh ⊢; omega))
        subst h3
        refine lv_aload_n hx hb dW_pass_111 rfl (lv_at hl 0 rfl) ?_
        refine lv_iconst (v := 0) hx hb dW_pass_112 (by decide) ?_
        refine mp_put hE.1 hI hT rfl gx_W ty_W to_W tn_W 4 (by decide) (List.mem_cons_of_mem _ gf_W25) rfl rfl rfl (Nat.le_of_ble_eq_true rfl) dW_pass_113 (fun H locs hI => ?_)
        refine ct_vret hE hI hr hk ⟨rfl, (mp_off.rf _ _).up (by simp) _, f, ?_, ?_, ?_, fun i z hz => ?_⟩ (by decide) (by decide) dW_pass_116
        · rw [mp_up_self, hwk]; rfl
        · rw [mp_up_ne _ _ (Ne.symm hne)]; exact hA
        · rw [hwk]; simp [tm_pop]
        · rw [hwk] at hz; simp [tm_pop] at hz
      · cases h with
        | nil => exact absurd (show nI 0 ≤ 0 by decide) h3
        | cons y h =>
          have hlen : h.length + 1 ≤ 150 := by simpa using hh
          have hfy : f h.length = nI y := hf h.length y (by simp)
          refine lv_aload_n hx hb dW_pass_85 rfl (lv_at hl 0 rfl) ?_
          refine lv_dup hx hb dW_pass_86 rfl ?_
          refine mp_get hE.1 hI hT rfl gx_W 3 (by decide) (List.mem_cons_of_mem _ gf_W22) rfl dW_pass_87 ?_
          refine lv_iconst (v := 1) hx hb dW_pass_90 (by decide) ?_
          refine lv_isub hx hb dW_pass_91 ?_
          rw [show nI (y :: h, c0).1.length - 1 = nI h.length from nI_pred h.length]
          refine mp_put hE.1 hI hT rfl gx_W ty_W to_W tn_W 3 (by decide) (List.mem_cons_of_mem _ gf_W22) rfl rfl rfl (Nat.le_of_ble_eq_true rfl) dW_pass_92 (fun H locs hI => ?_)
          have hT1 : mp_up w k (ob_W fa ff ka (nI h.length) (nI c0)) k = some (ob_W fa ff ka (nI h.length) (nI c0)) := mp_up_self ..
          have hA1 : mp_up w k (ob_W fa ff ka (nI h.length) (nI c0)) ka = some (ob_I K 150 f) := by rw [mp_up_ne _ _ (Ne.symm hne)]; exact hA
          refine lv_aload_n hx hb dW_pass_95 rfl (lv_at hl 0 rfl) ?_
          refine lv_aload_n hx hb dW_pass_96 rfl (lv_at hl 0 rfl) ?_
          refine mp_get hE.1 hI hT1 rfl gx_W 2 (by decide) (List.mem_cons_of_mem _ gf_W18) rfl dW_pass_97 ?_
          refine lv_aload_n hx hb dW_pass_100 rfl (lv_at hl 0 rfl) ?_
          refine mp_get hE.1 hI hT1 rfl gx_W 3 (by decide) (List.mem_cons_of_mem _ gf_W22) rfl dW_pass_101 ?_
          refine mp_ild hE.1 hI hA1 0 rfl (vp_in_nI (by omega) (by omega)) dW_pass_104 ?_
          rw [nI_clamp (by omega), hfy]
          refine mp_put hE.1 hI hT1 rfl gx_W ty_W to_W tn_W 4 (by decide) (List.mem_cons_of_mem _ gf_W25) rfl rfl rfl (Nat.le_of_ble_eq_true rfl) dW_pass_105 (fun H locs hI => ?_)
          refine lv_goto (tgt := 116) hx hb dW_pass_108 (by decide) ?_
          refine ct_vret hE hI hr hk ⟨rfl, ((mp_off.rf _ _).up (by simp) _).up (by simp) _, f, ?_, ?_, ?_, fun i z hz => ?_⟩ (by decide) (by decide) dW_pass_116
          · rw [mp_up_self, hwk]; rfl
          · rw [mp_up_ne _ _ (Ne.symm hne)]; exact hA1
          · rw [hwk]; show h.length ≤ 150; omega
          · rw [hwk] at hz
            have hz : h.reverse[i]? = some z := hz
            have hi := (List.getElem?_eq_some_iff.mp hz).1
            refine hf i z ?_
            show (y :: h).reverse[i]? = some z
            rw [List.reverse_cons, List.getElem?_append_left hi]
            exact hz
    · have h2 : x = -2 := (ci_m2e hx0).mp h2
      have hwk : tm_wk fa ff (h, c0) x = (h, c0 + ff) := by rw [h2]; rfl
      refine lv_aload_n hx hb dW_pass_62 rfl (lv_at hl 0 rfl) ?_
      refine lv_dup hx hb dW_pass_63 rfl ?_
      refine mp_get hE.1 hI hT rfl gx_W 4 (by decide) (List.mem_cons_of_mem _ gf_W25) rfl dW_pass_64 ?_
      refine lv_aload_n hx hb dW_pass_67 rfl (lv_at hl 0 rfl) ?_
      refine mp_get hE.1 hI hT rfl gx_W 1 (by decide) (List.mem_cons_of_mem _ gf_W15) rfl dW_pass_68 ?_
      refine lv_iadd hx hb dW_pass_71 ?_
      rw [nI_add]
      refine mp_put hE.1 hI hT rfl gx_W ty_W to_W tn_W 4 (by decide) (List.mem_cons_of_mem _ gf_W25) rfl rfl rfl (Nat.le_of_ble_eq_true rfl) dW_pass_72 (fun H locs hI => ?_)
      refine lv_goto (tgt := 116) hx hb dW_pass_75 (by decide) ?_
      refine ct_vret hE hI hr hk ⟨rfl, (mp_off.rf _ _).up (by simp) _, f, ?_, ?_, ?_, fun i z hz => ?_⟩ (by decide) (by decide) dW_pass_116
      · rw [mp_up_self, hwk]; rfl
      · rw [mp_up_ne _ _ (Ne.symm hne)]; exact hA
      · rw [hwk]; exact hh
      · rw [hwk] at hz; exact hf i z hz
  · have h1 : x = -1 := (ci_m1e hx0).mp h1
    refine lv_aload_n hx hb dW_pass_5 rfl (lv_at hl 0 rfl) ?_
    refine lv_dup hx hb dW_pass_6 rfl ?_
    refine mp_get hE.1 hI hT rfl gx_W 4 (by decide) (List.mem_cons_of_mem _ gf_W25) rfl dW_pass_7 ?_
    refine lv_aload_n hx hb dW_pass_10 rfl (lv_at hl 0 rfl) ?_
    refine mp_get hE.1 hI hT rfl gx_W 0 (by decide) (List.mem_cons_of_mem _ gf_W9) rfl dW_pass_11 ?_
    refine lv_iadd hx hb dW_pass_14 ?_
    rw [nI_add]
    refine mp_put hE.1 hI hT rfl gx_W ty_W to_W tn_W 4 (by decide) (List.mem_cons_of_mem _ gf_W25) rfl rfl rfl (Nat.le_of_ble_eq_true rfl) dW_pass_15 (fun H locs hI => ?_)
    have hT1 : mp_up w k (ob_W fa ff ka (nI h.length) (nI (c0 + fa))) k = some (ob_W fa ff ka (nI h.length) (nI (c0 + fa))) := mp_up_self ..
    have hA1 : mp_up w k (ob_W fa ff ka (nI h.length) (nI (c0 + fa))) ka = some (ob_I K 150 f) := by rw [mp_up_ne _ _ (Ne.symm hne)]; exact hA
    have hh : h.length ≤ 150 := hh
    refine lv_aload_n hx hb dW_pass_18 rfl (lv_at hl 0 rfl) ?_
    refine mp_get hE.1 hI hT1 rfl gx_W 3 (by decide) (List.mem_cons_of_mem _ gf_W22) rfl dW_pass_19 ?_
    refine lv_aload_n hx hb dW_pass_22 rfl (lv_at hl 0 rfl) ?_
    refine mp_get hE.1 hI hT1 rfl gx_W 2 (by decide) (List.mem_cons_of_mem _ gf_W18) rfl dW_pass_23 ?_
    refine mp_len (v := nI 150) hE.1 hI hA1 0 rfl rfl dW_pass_26 ?_
    refine lv_icmp_ge (tgt := 116) hx hb dW_pass_27 (by decide) (fun h3 => ?_) (fun h3 => ?_)
    · have h3 : 150 ≤ h.length := (nI_leI (by omega) (by omega)).mp h3
      have hwk : tm_wk fa ff (h, c0) x = (h, c0 + fa) := by
        rw [h1]
        have : ¬ h.length < 150 := by omega
        simp [tm_wk, this]
      refine ct_vret hE hI hr hk ⟨rfl, (mp_off.rf _ _).up (by simp) _, f, ?_, ?_, ?_, fun i z hz => ?_⟩ (by decide) (by decide) dW_pass_116
      · rw [mp_up_self, hwk]; rfl
      · exact hA1
      · rw [hwk]; exact hh
      · rw [hwk] at hz; exact hf i z hz
    · have h3 : h.length < 150 := Nat.lt_of_not_le (fun z => h3 (nI_le z (by omega)))
      have hwk : tm_wk fa ff (h, c0) x = ((c0 + fa) :: h, c0 + fa) := by rw [h1]; exact tm_wk_a fa ff h3 c0
      refine lv_aload_n hx hb dW_pass_30 rfl (lv_at hl 0 rfl) ?_
      refine mp_get hE.1 hI hT1 rfl gx_W 2 (by decide) (List.mem_cons_of_mem _ gf_W18) rfl dW_pass_31 ?_
      refine lv_aload_n hx hb dW_pass_34 rfl (lv_at hl 0 rfl) ?_
      refine mp_get hE.1 hI hT1 rfl gx_W 3 (by decide) (List.mem_cons_of_mem _ gf_W22) rfl dW_pass_35 ?_
      refine lv_aload_n hx hb dW_pass_38 rfl (lv_at hl 0 rfl) ?_
      refine mp_get hE.1 hI hT1 rfl gx_W 4 (by decide) (List.mem_cons_of_mem _ gf_W25) rfl dW_pass_39 ?_
      refine mp_ist hE.1 hI hA1 0 rfl (vp_in_nI h3 (by omega)) dW_pass_42 (fun H locs hI => ?_)
      rw [nI_clamp (show h.length < 2 ^ 31 by omega)] at hI
      obtain ⟨w2, hwe⟩ : ∃ z, mp_up (mp_up w k (ob_W fa ff ka (nI h.length) (nI (c0 + fa)))) ka (ob_I K 150 (upd f h.length (nI (c0 + fa)))) = z := ⟨_, rfl⟩
      have hI : mp_I D cl_all (mp_A w s.heap.size) s.heap w2 H locs := by rw [← hwe]; exact hI
      have hT2 : w2 k = some (ob_W fa ff ka (nI h.length) (nI (c0 + fa))) := by rw [← hwe, mp_up_ne _ _ hne]; exact hT1
      have hA2 : w2 ka = some (ob_I K 150 (upd f h.length (nI (c0 + fa)))) := by rw [← hwe]; exact mp_up_self ..
      have ho2 : mp_off [k, ka] w w2 := by rw [← hwe]; exact ((mp_off.rf _ _).up (by simp) _).up (by simp) _
      refine lv_aload_n hx hb dW_pass_43 rfl (lv_at hl 0 rfl) ?_
      refine lv_dup hx hb dW_pass_44 rfl ?_
      refine mp_get hE.1 hI hT2 rfl gx_W 3 (by decide) (List.mem_cons_of_mem _ gf_W22) rfl dW_pass_45 ?_
      refine lv_iconst (v := 1) hx hb dW_pass_48 (by decide) ?_
      refine lv_iadd hx hb dW_pass_49 ?_
      rw [nI_1]
      refine mp_put hE.1 hI hT2 rfl gx_W ty_W to_W tn_W 3 (by decide) (List.mem_cons_of_mem _ gf_W22) rfl rfl rfl (Nat.le_of_ble_eq_true rfl) dW_pass_50 (fun H locs hI => ?_)
      refine lv_goto (tgt := 116) hx hb dW_pass_53 (by decide) ?_
      refine ct_vret hE hI hr hk ⟨rfl, ho2.up (by simp) _, upd f h.length (nI (c0 + fa)), ?_, ?_, ?_, fun i z hz => ?_⟩ (by decide) (by decide) dW_pass_116
      · rw [mp_up_self, hwk]; rfl
      · rw [mp_up_ne _ _ (Ne.symm hne)]; exact hA2
      · rw [hwk]; show h.length + 1 ≤ 150; omega
      · rw [hwk] at hz
        have hz : ((c0 + fa) :: h).reverse[i]? = some z := hz
        rw [List.reverse_cons] at hz
        have hi := (List.getElem?_eq_some_iff.mp hz).1
        rw [List.length_append, List.length_reverse, List.length_cons, List.length_nil] at hi
        by_cases q : i = h.length
        · subst q
          have : c0 + fa = z := by simpa using hz
          rw [pk_us, this]
        · rw [pk_un q]
          rw [List.getElem?_append_left (by rw [List.length_reverse]; omega)] at hz
          exact hf i z hz
end KT6
end
section
/-! Term: reserve, become, Term(int); Walk(int, int) -/
theorem ci_max {a b : Nat} (ha : a < 2147483648) (hb : b < 2147483648) : (if nI a < nI b then nI b else nI a) = nI (max a b) := by
  by_cases h : a < b
  · rw [if_pos (nI_lt h (by omega)), Nat.max_eq_right (by omega)]
  · rw [if_neg (nI_nlt (by omega) (by omega)), Nat.max_eq_left (by omega)]
theorem ci_min {a b : Nat} (ha : a < 2147483648) (hb : b < 2147483648) : (if nI b < nI a then nI b else nI a) = nI (min a b) := by
  by_cases h : b < a
  · rw [if_pos (nI_lt h (by omega)), Nat.min_eq_right (by omega)]
  · rw [if_neg (nI_nlt (by omega) (by omega)), Nat.min_eq_left (by omega)]
section KT7
variable {l : Launch} {n0 : Nat} {D : va_G} {K : Nat → ClassId} {w : mp_W}
set_option maxRecDepth 100000 in
theorem kT_reserve {t ar cap r : Nat} {n : Int32} {f : Nat → Int32} (hT : w t = some (ob_T ar n)) (hA : w ar = some (ob_I K cap f)) (hc : cap ≤ 2000) (hr2 : r ≤ 2000) : ct_M l n0 D K yT_reserve (Cond.code yT_reserve cT_reserve 2 none) 1 40 1 2000 [.ref t, .int (nI r)] w (fun v w' => v = none ∧ ((r ≤ cap ∧ w' = w) ∨ (cap < r ∧ ∃ q cap', w q = none ∧ r ≤ cap' ∧ cap' ≤ 2000 ∧ w' = mp_up (mp_up w q (ob_I K cap' (fun _ => 0))) t (ob_T q n)))) := by
  refine ct_go (own := nm_T) (by decide) rfl (Nat.le_of_ble_eq_true rfl) ?_
  intro p e s m below meth c ls hE hI hr hk hn hl
  have hx := hE.1.1.1
  have hb := hE.1.1.2.1
  have hl : lv_has ls 2 [(0, .ref t), (1, .int (nI r))] := hl
  refine lv_iload_n hx hb dT_reserve_0 rfl (lv_at hl 1 rfl) ?_
  refine lv_aload_n hx hb dT_reserve_1 rfl (lv_at hl 0 rfl) ?_
  refine mp_get hE.1 hI hT rfl gx_T 0 (by decide) (List.mem_cons_of_mem _ gf_T9) rfl dT_reserve_2 ?_
  refine mp_len (v := nI cap) hE.1 hI hA 0 rfl rfl dT_reserve_5 ?_
  refine lv_icmp_le (tgt := 32) hx hb dT_reserve_6 (by decide) (fun hq => ?_) (fun hq => ?_)
  · have hq : r ≤ cap := (nI_leI (by omega) (by omega)).mp hq
    exact ct_vret hE hI hr hk ⟨rfl, Or.inl ⟨hq, rfl⟩⟩ (by decide) (by decide) dT_reserve_32
  · have hq : cap < r := Nat.lt_of_not_le (fun h => hq (nI_le h (by omega)))
    refine lv_aload_n hx hb dT_reserve_9 rfl (lv_at hl 0 rfl) ?_
    refine lv_sipush (v := 2000) hx hb dT_reserve_10 (by decide) ?_
    refine lv_iload_n hx hb dT_reserve_13 rfl (lv_at hl 1 rfl) ?_
    refine lv_iconst (v := 2) hx hb dT_reserve_14 (by decide) ?_
    refine lv_aload_n hx hb dT_reserve_15 rfl (lv_at hl 0 rfl) ?_
    refine mp_get hE.1 hI hT rfl gx_T 0 (by decide) (List.mem_cons_of_mem _ gf_T9) rfl dT_reserve_16 ?_
    refine mp_len (v := nI cap) hE.1 hI hA 0 rfl rfl dT_reserve_19 ?_
    refine lv_imul hx hb dT_reserve_20 ?_
    rw [show (2 : Int32) = nI 2 from rfl, pk_mul]
    refine va_mmax hx hb (by rw [hE.1.1.2.2.1]; exact hl.1.symm) hE.1.1.2.2.2.1 (ct_w hE gm_T29) (ct_w hE gt_Jm_max) (ct_w hE gz_Jm) (ct_w hE gc_Jm_max) (Nat.le_of_ble_eq_true rfl) (Nat.le_of_ble_eq_true rfl) (Nat.zero_le _) (Nat.zero_le _) dT_reserve_21 ?_
    rw [ci_max (by omega) (by omega), show (2000 : Int32) = nI 2000 from rfl]
    refine va_mmin hx hb (by rw [hE.1.1.2.2.1]; exact hl.1.symm) hE.1.1.2.2.2.1 (ct_w hE gm_T35) (ct_w hE gt_Jm_min) (ct_w hE gz_Jm) (ct_w hE gc_Jm_min) (Nat.le_of_ble_eq_true rfl) (Nat.le_of_ble_eq_true rfl) (Nat.zero_le _) (Nat.zero_le _) dT_reserve_24 ?_
    rw [ci_min (by omega) (by omega)]
    generalize hcap : min 2000 (max r (2 * cap)) = cap'
    have hc1 : r ≤ cap' := by omega
    have hc2 : cap' ≤ 2000 := by omega
    refine mp_newa (atype := .int) hE.1 hI (List.mem_cons_of_mem _ ga_int) rfl 0 rfl (a0 := (cap', .inl (fun _ => 0))) (fun _ => rfl) (nI_pos (by omega)) (nI_clamp (by omega)) (by show cap' * 4 ≤ _; omega) (Nat.le_of_ble_eq_true rfl) (by show 0 + cap' ≤ 2000; omega) dT_reserve_27 (fun q H hq0 hI => ?_)
    have htq : t ≠ q := fun z => by rw [z, hq0] at hT; cases hT
    have hT1 : mp_up w q (ob_I K cap' (fun _ => 0)) t = some (ob_T ar n) := by rw [mp_up_ne _ _ htq]; exact hT
    refine mp_put hE.1 hI hT1 rfl gx_T ty_T to_T tn_T 0 (by decide) (List.mem_cons_of_mem _ gf_T9) rfl rfl rfl (Nat.le_of_ble_eq_true rfl) dT_reserve_29 (fun H locs hI => ?_)
    exact ct_vret hE hI hr hk ⟨rfl, Or.inr ⟨hq, q, cap', hq0, hc1, hc2, rfl⟩⟩ (by decide) (by omega) dT_reserve_32
/-- a Term holds a row of at most 2000 cells -/
def pt_V (K : Nat → ClassId) (w : mp_W) (t ar cap : Nat) : Prop := ∃ n f, w t = some (ob_T ar n) ∧ w ar = some (ob_I K cap f) ∧ cap ≤ 2000
theorem pt_R.V {w : mp_W} {t ar cap : Nat} {L : List Int} (h : pt_R K w t ar cap L) : pt_V K w t ar cap := by
  obtain ⟨f, h1, h2, -, -, h3, -⟩ := h.out
  exact ⟨_, f, h1, h2, h3⟩
set_option maxRecDepth 100000 in
theorem kT_become {t ar cap o oar ocap : Nat} {O : List Int} (hp : pt_V K w t ar cap) (ho : pt_R K w o oar ocap O) : ct_M l n0 D K yT_become (Cond.code yT_become cT_become 2 (some .int)) 2 80 1 2000 [.ref t, .ref o] w (fun v w' => v = some (.int (nI O.length)) ∧ ∃ ar' cap', (ar' = ar ∨ w ar' = none) ∧ (O.length ≤ cap → ar' = ar ∧ cap' = cap) ∧ mp_off [t, ar'] w w' ∧ pt_R K w' t ar' cap' O) := by
  obtain ⟨n, f, hT, hA, hc⟩ := hp
  obtain ⟨g, hoT, hoA, hg, hoc, hoc2, hox2⟩ := ho.out
  have hne : t ≠ ar := pt_ne hT hA pt_io
  refine ct_go (own := nm_T) (by decide) rfl (Nat.le_of_ble_eq_true rfl) ?_
  intro p e s m below meth c ls hE hI hr hk hn hl
  have hx := hE.1.1.1
  have hb := hE.1.1.2.1
  have hl : lv_has ls 2 [(0, .ref t), (1, .ref o)] := hl
  refine lv_aload_n hx hb dT_become_0 rfl (lv_at hl 0 rfl) ?_
  refine lv_aload_n hx hb dT_become_1 rfl (lv_at hl 1 rfl) ?_
  refine mp_get hE.1 hI hoT rfl gx_T 1 (by decide) (List.mem_cons_of_mem _ gf_T15) rfl dT_become_2 ?_
  refine ct_V (n := 1) hE hI (kT_reserve (r := O.length) hT hA hc (by omega)) hT rfl gm_T19 gi_T_reserve gs_T_T_reserve gz_T gc_T_reserve (by decide +kernel) ⟨Nat.le_of_ble_eq_true rfl, Nat.le_of_ble_eq_true rfl⟩ rfl hl.1 rfl (Nat.le_of_ble_eq_true rfl) dT_become_5 ⟨Nat.le_of_ble_eq_true rfl, Nat.le_of_ble_eq_true rfl⟩ (fun v w1 H locs hq hI => ?_)
  obtain ⟨rfl, hq⟩ := hq
  have key : ∃ ar' cap' f', (ar' = ar ∨ w ar' = none) ∧ (O.length ≤ cap → ar' = ar ∧ cap' = cap) ∧ mp_off [t, ar'] w w1 ∧ w1 t = some (ob_T ar' n) ∧ w1 ar' = some (ob_I K cap' f') ∧ w1 o = some (ob_T (if o = t then ar' else oar) (nI O.length)) ∧ (∃ g', w1 (if o = t then ar' else oar) = some (ob_I K (if o = t then cap' else ocap) g') ∧ pt_h g' O) ∧ O.length ≤ cap' ∧ cap' ≤ 2000 ∧ O.length ≤ (if o = t then cap' else ocap) ∧ t ≠ ar' := by
    rcases hq with ⟨hq, rfl⟩ | ⟨hq, q, cap', hq0, h1, h2, rfl⟩
    · refine ⟨ar, cap, f, Or.inl rfl, fun _ => ⟨rfl, rfl⟩, mp_off.rf _ _, hT, hA, ?_, ?_, hq, hc, ?_, hne⟩
      · by_cases e : o = t
        · rw [if_pos e]
          subst e
          rw [hT] at hoT
          have : ar = oar := by cases hoT; rfl
          rw [this, ← this, hT]
          cases hoT
          rfl
        · rw [if_neg e]; exact hoT
      · by_cases e : o = t
        · rw [if_pos e, if_pos e]
          subst e
          rw [hT] at hoT
          have h3 : ar = oar := by cases hoT; rfl
          subst h3
          rw [hA] at hoA
          cases hoA
          exact ⟨f, hA, hg⟩
        · rw [if_neg e, if_neg e]; exact ⟨g, hoA, hg⟩
      · split
        · exact hq
        · exact hoc
    · have hot : ¬ o = t := by
        intro e
        subst e
        rw [hT] at hoT
        have h3 : ar = oar := by cases hoT; rfl
        subst h3
        rw [hA] at hoA
        cases hoA
        omega
      have htq : t ≠ q := fun z => by rw [z, hq0] at hT; cases hT
      have hoq : o ≠ q := fun z => by rw [z, hq0] at hoT; cases hoT
      have haq : oar ≠ q := fun z => by rw [z, hq0] at hoA; cases hoA
      have hat : oar ≠ t := fun z => by rw [z, hT] at hoA; cases hoA
      refine ⟨q, cap', fun _ => 0, Or.inr hq0, fun h => by omega, ((mp_off.rf _ _).up (by simp) _).up (by simp) _, mp_up_self .., ?_, ?_, ?_, h1, h2, ?_, htq⟩
      · rw [mp_up_ne _ _ (Ne.symm htq), mp_up_self]
      · rw [if_neg hot, mp_up_ne _ _ hot, mp_up_ne _ _ hoq]; exact hoT
      · rw [if_neg hot, if_neg hot, mp_up_ne _ _ hat, mp_up_ne _ _ haq]; exact ⟨g, hoA, hg⟩
      · rw [if_neg hot]; exact hoc
  obtain ⟨ar', cap', f', ha', hsame, hof, kT, kA, koT, ⟨g', koA, hg'⟩, k1, k2, k3, kne⟩ := key
  clear hq
  show W _ _ _ _ _ _ _ _ _ _ _ _ _ _ _ (F0 _ _ _ [])
  have e0 : (0 : Int32).toNatClampNeg = 0 := rfl
  have e3 : (nI O.length).toNatClampNeg = O.length := nI_clamp (by omega)
  refine lv_aload_n hx hb dT_become_8 rfl (lv_at hl 1 rfl) ?_
  refine mp_get hE.1 hI koT rfl gx_T 0 (by decide) (List.mem_cons_of_mem _ gf_T9) rfl dT_become_9 ?_
  refine lv_iconst (v := 0) hx hb dT_become_12 (by decide) ?_
  refine lv_aload_n hx hb dT_become_13 rfl (lv_at hl 0 rfl) ?_
  refine mp_get hE.1 hI kT rfl gx_T 0 (by decide) (List.mem_cons_of_mem _ gf_T9) rfl dT_become_14 ?_
  refine lv_iconst (v := 0) hx hb dT_become_17 (by decide) ?_
  refine lv_aload_n hx hb dT_become_18 rfl (lv_at hl 1 rfl) ?_
  refine mp_get hE.1 hI koT rfl gx_T 1 (by decide) (List.mem_cons_of_mem _ gf_T15) rfl dT_become_19 ?_
  refine mp_copy hE.1 hI hl.1 (List.mem_cons_of_mem _ gm_T23) (List.mem_cons_of_mem _ gv_Js_arraycopy) (List.mem_cons_of_mem _ gt_Js_arraycopy) (List.mem_cons_of_mem _ gz_Js) koA kA 0 0 rfl rfl rfl (by decide) (by decide) (nI_pos (by omega)) (by rw [e0, e3]; omega) (by rw [e0, e3]; omega) (fun _ _ => rfl) (Nat.le_of_ble_eq_true rfl) (Nat.le_of_ble_eq_true rfl) dT_become_22 (fun H locs hI => ?_)
  rw [e0, e3] at hI
  obtain ⟨w2, hwe⟩ : ∃ z, mp_up w1 ar' (ob_I K cap' (va_cpy g' f' 0 0 O.length)) = z := ⟨_, rfl⟩
  have hI : mp_I D cl_all (mp_A w s.heap.size) s.heap w2 H locs := by rw [← hwe]; exact hI
  have hT2 : w2 t = some (ob_T ar' n) := by rw [← hwe, mp_up_ne _ _ kne]; exact kT
  have hA2 : w2 ar' = some (ob_I K cap' (va_cpy g' f' 0 0 O.length)) := by rw [← hwe]; exact mp_up_self ..
  have hoa : o ≠ ar' := fun z => by rw [z, kA] at koT; cases koT
  have hoT2 : w2 o = some (ob_T (if o = t then ar' else oar) (nI O.length)) := by rw [← hwe, mp_up_ne _ _ hoa]; exact koT
  have ho2 : mp_off [t, ar'] w w2 := by rw [← hwe]; exact hof.up (by simp) _
  refine lv_aload_n hx hb dT_become_25 rfl (lv_at hl 0 rfl) ?_
  refine lv_aload_n hx hb dT_become_26 rfl (lv_at hl 1 rfl) ?_
  refine mp_get hE.1 hI hoT2 rfl gx_T 1 (by decide) (List.mem_cons_of_mem _ gf_T15) rfl dT_become_27 ?_
  refine mp_put hE.1 hI hT2 rfl gx_T ty_T to_T tn_T 1 (by decide) (List.mem_cons_of_mem _ gf_T15) rfl rfl rfl (Nat.le_of_ble_eq_true rfl) dT_become_30 (fun H locs hI => ?_)
  obtain ⟨w3, hwe3⟩ : ∃ z, mp_up w2 t (ob_T ar' (nI O.length)) = z := ⟨_, rfl⟩
  have hI : mp_I D cl_all (mp_A w s.heap.size) s.heap w3 H locs := by rw [← hwe3]; exact hI
  have hT3 : w3 t = some (ob_T ar' (nI O.length)) := by rw [← hwe3]; exact mp_up_self ..
  have hA3 : w3 ar' = some (ob_I K cap' (va_cpy g' f' 0 0 O.length)) := by rw [← hwe3, mp_up_ne _ _ (Ne.symm kne)]; exact hA2
  have ho3 : mp_off [t, ar'] w w3 := by rw [← hwe3]; exact ho2.up (by simp) _
  refine lv_aload_n hx hb dT_become_33 rfl (lv_at hl 0 rfl) ?_
  refine mp_get hE.1 hI hT3 rfl gx_T 1 (by decide) (List.mem_cons_of_mem _ gf_T15) rfl dT_become_34 ?_
  refine ct_iret hE hI hr hk ⟨rfl, ar', cap', ha', hsame, ho3, ⟨_, hT3, hA3, fun _ i x hi => ?_⟩, k1, k2, hox2⟩ (by decide) (by decide) dT_become_37
  have hil := (List.getElem?_eq_some_iff.mp hi).1
  rw [sb_cpy0 hil]
  exact hg' i x hi
end KT7
end
section
theorem dX_init_0 : decode cX_init 0 = .ok (.aload_n 0, 1) := by decide +kernel
theorem dX_init_1 : decode cX_init 1 = .ok (.invokespecial 3, 3) := by decide +kernel
theorem dX_init_4 : decode cX_init 4 = .ok (.aload_n 0, 1) := by decide +kernel
theorem dX_init_5 : decode cX_init 5 = .ok (.bipush 64, 2) := by decide +kernel
theorem dX_init_7 : decode cX_init 7 = .ok (.newarray .byte, 2) := by decide +kernel
theorem dX_init_9 : decode cX_init 9 = .ok (.putfield 9, 3) := by decide +kernel
theorem dX_init_12 : decode cX_init 12 = .ok (.aload_n 0, 1) := by decide +kernel
theorem dX_init_13 : decode cX_init 13 = .ok (.iconst 0, 1) := by decide +kernel
theorem dX_init_14 : decode cX_init 14 = .ok (.putfield 15, 3) := by decide +kernel
theorem dX_init_17 : decode cX_init 17 = .ok (.aload_n 0, 1) := by decide +kernel
theorem dX_init_18 : decode cX_init 18 = .ok (.new 19, 3) := by decide +kernel
theorem dX_init_21 : decode cX_init 21 = .ok (.dup, 1) := by decide +kernel
theorem dX_init_22 : decode cX_init 22 = .ok (.iconst 1, 1) := by decide +kernel
theorem dX_init_23 : decode cX_init 23 = .ok (.iconst 0, 1) := by decide +kernel
theorem dX_init_24 : decode cX_init 24 = .ok (.invokespecial 21, 3) := by decide +kernel
theorem dX_init_27 : decode cX_init 27 = .ok (.putfield 24, 3) := by decide +kernel
theorem dX_init_30 : decode cX_init 30 = .ok (.return_, 1) := by decide +kernel
theorem dX_show_0 : decode cX_show 0 = .ok (.aload_n 0, 1) := by decide +kernel
theorem dX_show_1 : decode cX_show 1 = .ok (.iconst 0, 1) := by decide +kernel
theorem dX_show_2 : decode cX_show 2 = .ok (.putfield 15, 3) := by decide +kernel
theorem dX_show_5 : decode cX_show 5 = .ok (.aload_n 0, 1) := by decide +kernel
theorem dX_show_6 : decode cX_show 6 = .ok (.getfield 24, 3) := by decide +kernel
theorem dX_show_9 : decode cX_show 9 = .ok (.invokevirtual 28, 3) := by decide +kernel
theorem dX_show_12 : decode cX_show 12 = .ok (.iconst 0, 1) := by decide +kernel
theorem dX_show_13 : decode cX_show 13 = .ok (.istore_n 2, 1) := by decide +kernel
theorem dX_show_14 : decode cX_show 14 = .ok (.iload_n 2, 1) := by decide +kernel
theorem dX_show_15 : decode cX_show 15 = .ok (.aload_n 1, 1) := by decide +kernel
theorem dX_show_16 : decode cX_show 16 = .ok (.getfield 31, 3) := by decide +kernel
theorem dX_show_19 : decode cX_show 19 = .ok (.if_icmp .ge 106, 3) := by decide +kernel
theorem dX_show_22 : decode cX_show 22 = .ok (.aload_n 1, 1) := by decide +kernel
theorem dX_show_23 : decode cX_show 23 = .ok (.getfield 36, 3) := by decide +kernel
theorem dX_show_26 : decode cX_show 26 = .ok (.iload_n 2, 1) := by decide +kernel
theorem dX_show_27 : decode cX_show 27 = .ok (.iaload, 1) := by decide +kernel
theorem dX_show_28 : decode cX_show 28 = .ok (.istore_n 3, 1) := by decide +kernel
theorem dX_show_29 : decode cX_show 29 = .ok (.aload_n 0, 1) := by decide +kernel
theorem dX_show_30 : decode cX_show 30 = .ok (.getfield 24, 3) := by decide +kernel
theorem dX_show_33 : decode cX_show 33 = .ok (.getfield 40, 3) := by decide +kernel
theorem dX_show_36 : decode cX_show 36 = .ok (.istore 4, 2) := by decide +kernel
theorem dX_show_38 : decode cX_show 38 = .ok (.aload_n 0, 1) := by decide +kernel
theorem dX_show_39 : decode cX_show 39 = .ok (.getfield 24, 3) := by decide +kernel
theorem dX_show_42 : decode cX_show 42 = .ok (.iload_n 3, 1) := by decide +kernel
theorem dX_show_43 : decode cX_show 43 = .ok (.invokevirtual 43, 3) := by decide +kernel
theorem dX_show_46 : decode cX_show 46 = .ok (.iload_n 3, 1) := by decide +kernel
theorem dX_show_47 : decode cX_show 47 = .ok (.iconst (-1), 1) := by decide +kernel
theorem dX_show_48 : decode cX_show 48 = .ok (.if_icmp .ne 13, 3) := by decide +kernel
theorem dX_show_51 : decode cX_show 51 = .ok (.aload_n 0, 1) := by decide +kernel
theorem dX_show_52 : decode cX_show 52 = .ok (.bipush 40, 2) := by decide +kernel
theorem dX_show_54 : decode cX_show 54 = .ok (.iconst 1, 1) := by decide +kernel
theorem dX_show_55 : decode cX_show 55 = .ok (.invokevirtual 47, 3) := by decide +kernel
theorem dX_show_58 : decode cX_show 58 = .ok (.goto 61, 3) := by decide +kernel
theorem dX_show_61 : decode cX_show 61 = .ok (.iload_n 3, 1) := by decide +kernel
theorem dX_show_62 : decode cX_show 62 = .ok (.bipush (-2), 2) := by decide +kernel
theorem dX_show_64 : decode cX_show 64 = .ok (.if_icmp .ne 13, 3) := by decide +kernel
theorem dX_show_67 : decode cX_show 67 = .ok (.aload_n 0, 1) := by decide +kernel
theorem dX_show_68 : decode cX_show 68 = .ok (.bipush 46, 2) := by decide +kernel
theorem dX_show_70 : decode cX_show 70 = .ok (.iconst 1, 1) := by decide +kernel
theorem dX_show_71 : decode cX_show 71 = .ok (.invokevirtual 47, 3) := by decide +kernel
theorem dX_show_74 : decode cX_show 74 = .ok (.goto 45, 3) := by decide +kernel
theorem dX_show_77 : decode cX_show 77 = .ok (.aload_n 0, 1) := by decide +kernel
theorem dX_show_78 : decode cX_show 78 = .ok (.iload_n 3, 1) := by decide +kernel
theorem dX_show_79 : decode cX_show 79 = .ok (.invokevirtual 51, 3) := by decide +kernel
theorem dX_show_82 : decode cX_show 82 = .ok (.aload_n 0, 1) := by decide +kernel
theorem dX_show_83 : decode cX_show 83 = .ok (.bipush 41, 2) := by decide +kernel
theorem dX_show_85 : decode cX_show 85 = .ok (.iload 4, 2) := by decide +kernel
theorem dX_show_87 : decode cX_show 87 = .ok (.aload_n 0, 1) := by decide +kernel
theorem dX_show_88 : decode cX_show 88 = .ok (.getfield 24, 3) := by decide +kernel
theorem dX_show_91 : decode cX_show 91 = .ok (.getfield 40, 3) := by decide +kernel
theorem dX_show_94 : decode cX_show 94 = .ok (.isub, 1) := by decide +kernel
theorem dX_show_95 : decode cX_show 95 = .ok (.invokevirtual 47, 3) := by decide +kernel
theorem dX_show_98 : decode cX_show 98 = .ok (.aload_n 0, 1) := by decide +kernel
theorem dX_show_99 : decode cX_show 99 = .ok (.bipush 32, 2) := by decide +kernel
theorem dX_show_101 : decode cX_show 101 = .ok (.iload_n 2, 1) := by decide +kernel
theorem dX_show_102 : decode cX_show 102 = .ok (.iconst 1, 1) := by decide +kernel
theorem dX_show_103 : decode cX_show 103 = .ok (.iadd, 1) := by decide +kernel
theorem dX_show_104 : decode cX_show 104 = .ok (.aload_n 1, 1) := by decide +kernel
theorem dX_show_105 : decode cX_show 105 = .ok (.getfield 31, 3) := by decide +kernel
theorem dX_show_108 : decode cX_show 108 = .ok (.if_icmp .ge 7, 3) := by decide +kernel
theorem dX_show_111 : decode cX_show 111 = .ok (.iconst 1, 1) := by decide +kernel
theorem dX_show_112 : decode cX_show 112 = .ok (.goto 4, 3) := by decide +kernel
theorem dX_show_115 : decode cX_show 115 = .ok (.iconst 0, 1) := by decide +kernel
theorem dX_show_116 : decode cX_show 116 = .ok (.invokevirtual 47, 3) := by decide +kernel
theorem dX_show_119 : decode cX_show 119 = .ok (.iinc 2 1, 3) := by decide +kernel
theorem dX_show_122 : decode cX_show 122 = .ok (.goto (-108), 3) := by decide +kernel
theorem dX_show_125 : decode cX_show 125 = .ok (.aload_n 0, 1) := by decide +kernel
theorem dX_show_126 : decode cX_show 126 = .ok (.getfield 15, 3) := by decide +kernel
theorem dX_show_129 : decode cX_show 129 = .ok (.ireturn, 1) := by decide +kernel
theorem dX_addLeaf_0 : decode cX_addLeaf 0 = .ok (.iload_n 1, 1) := by decide +kernel
theorem dX_addLeaf_1 : decode cX_addLeaf 1 = .ok (.bipush 99, 2) := by decide +kernel
theorem dX_addLeaf_3 : decode cX_addLeaf 3 = .ok (.if_icmp .le 14, 3) := by decide +kernel
theorem dX_addLeaf_6 : decode cX_addLeaf 6 = .ok (.aload_n 0, 1) := by decide +kernel
theorem dX_addLeaf_7 : decode cX_addLeaf 7 = .ok (.bipush 39, 2) := by decide +kernel
theorem dX_addLeaf_9 : decode cX_addLeaf 9 = .ok (.iload_n 1, 1) := by decide +kernel
theorem dX_addLeaf_10 : decode cX_addLeaf 10 = .ok (.bipush 99, 2) := by decide +kernel
theorem dX_addLeaf_12 : decode cX_addLeaf 12 = .ok (.isub, 1) := by decide +kernel
theorem dX_addLeaf_13 : decode cX_addLeaf 13 = .ok (.invokevirtual 47, 3) := by decide +kernel
theorem dX_addLeaf_16 : decode cX_addLeaf 16 = .ok (.return_, 1) := by decide +kernel
theorem dX_addLeaf_17 : decode cX_addLeaf 17 = .ok (.iload_n 1, 1) := by decide +kernel
theorem dX_addLeaf_18 : decode cX_addLeaf 18 = .ok (.bipush 10, 2) := by decide +kernel
theorem dX_addLeaf_20 : decode cX_addLeaf 20 = .ok (.if_icmp .lt 16, 3) := by decide +kernel
theorem dX_addLeaf_23 : decode cX_addLeaf 23 = .ok (.aload_n 0, 1) := by decide +kernel
theorem dX_addLeaf_24 : decode cX_addLeaf 24 = .ok (.bipush 48, 2) := by decide +kernel
theorem dX_addLeaf_26 : decode cX_addLeaf 26 = .ok (.iload_n 1, 1) := by decide +kernel
theorem dX_addLeaf_27 : decode cX_addLeaf 27 = .ok (.bipush 10, 2) := by decide +kernel
theorem dX_addLeaf_29 : decode cX_addLeaf 29 = .ok (.idiv, 1) := by decide +kernel
theorem dX_addLeaf_30 : decode cX_addLeaf 30 = .ok (.iadd, 1) := by decide +kernel
theorem dX_addLeaf_31 : decode cX_addLeaf 31 = .ok (.i2c, 1) := by decide +kernel
theorem dX_addLeaf_32 : decode cX_addLeaf 32 = .ok (.iconst 1, 1) := by decide +kernel
theorem dX_addLeaf_33 : decode cX_addLeaf 33 = .ok (.invokevirtual 47, 3) := by decide +kernel
theorem dX_addLeaf_36 : decode cX_addLeaf 36 = .ok (.aload_n 0, 1) := by decide +kernel
theorem dX_addLeaf_37 : decode cX_addLeaf 37 = .ok (.bipush 48, 2) := by decide +kernel
theorem dX_addLeaf_39 : decode cX_addLeaf 39 = .ok (.iload_n 1, 1) := by decide +kernel
theorem dX_addLeaf_40 : decode cX_addLeaf 40 = .ok (.bipush 10, 2) := by decide +kernel
theorem dX_addLeaf_42 : decode cX_addLeaf 42 = .ok (.irem, 1) := by decide +kernel
theorem dX_addLeaf_43 : decode cX_addLeaf 43 = .ok (.iadd, 1) := by decide +kernel
theorem dX_addLeaf_44 : decode cX_addLeaf 44 = .ok (.i2c, 1) := by decide +kernel
theorem dX_addLeaf_45 : decode cX_addLeaf 45 = .ok (.iconst 1, 1) := by decide +kernel
theorem dX_addLeaf_46 : decode cX_addLeaf 46 = .ok (.invokevirtual 47, 3) := by decide +kernel
theorem dX_addLeaf_49 : decode cX_addLeaf 49 = .ok (.return_, 1) := by decide +kernel
theorem dX_add_0 : decode cX_add 0 = .ok (.iload_n 2, 1) := by decide +kernel
theorem dX_add_1 : decode cX_add 1 = .ok (.aload_n 0, 1) := by decide +kernel
theorem dX_add_2 : decode cX_add 2 = .ok (.getfield 9, 3) := by decide +kernel
theorem dX_add_5 : decode cX_add 5 = .ok (.arraylength, 1) := by decide +kernel
theorem dX_add_6 : decode cX_add 6 = .ok (.aload_n 0, 1) := by decide +kernel
theorem dX_add_7 : decode cX_add 7 = .ok (.getfield 15, 3) := by decide +kernel
theorem dX_add_10 : decode cX_add 10 = .ok (.isub, 1) := by decide +kernel
theorem dX_add_11 : decode cX_add 11 = .ok (.if_icmp .le 23, 3) := by decide +kernel
theorem dX_add_14 : decode cX_add 14 = .ok (.aload_n 0, 1) := by decide +kernel
theorem dX_add_15 : decode cX_add 15 = .ok (.aload_n 0, 1) := by decide +kernel
theorem dX_add_16 : decode cX_add 16 = .ok (.getfield 9, 3) := by decide +kernel
theorem dX_add_19 : decode cX_add 19 = .ok (.iconst 2, 1) := by decide +kernel
theorem dX_add_20 : decode cX_add 20 = .ok (.aload_n 0, 1) := by decide +kernel
theorem dX_add_21 : decode cX_add 21 = .ok (.getfield 9, 3) := by decide +kernel
theorem dX_add_24 : decode cX_add 24 = .ok (.arraylength, 1) := by decide +kernel
theorem dX_add_25 : decode cX_add 25 = .ok (.imul, 1) := by decide +kernel
theorem dX_add_26 : decode cX_add 26 = .ok (.iload_n 2, 1) := by decide +kernel
theorem dX_add_27 : decode cX_add 27 = .ok (.iadd, 1) := by decide +kernel
theorem dX_add_28 : decode cX_add 28 = .ok (.invokestatic 54, 3) := by decide +kernel
theorem dX_add_31 : decode cX_add 31 = .ok (.putfield 9, 3) := by decide +kernel
theorem dX_add_34 : decode cX_add 34 = .ok (.iconst 0, 1) := by decide +kernel
theorem dX_add_35 : decode cX_add 35 = .ok (.istore_n 3, 1) := by decide +kernel
theorem dX_add_36 : decode cX_add 36 = .ok (.iload_n 3, 1) := by decide +kernel
theorem dX_add_37 : decode cX_add 37 = .ok (.iload_n 2, 1) := by decide +kernel
theorem dX_add_38 : decode cX_add 38 = .ok (.if_icmp .ge 30, 3) := by decide +kernel
theorem dX_add_41 : decode cX_add 41 = .ok (.aload_n 0, 1) := by decide +kernel
theorem dX_add_42 : decode cX_add 42 = .ok (.getfield 9, 3) := by decide +kernel
theorem dX_add_45 : decode cX_add 45 = .ok (.aload_n 0, 1) := by decide +kernel
theorem dX_add_46 : decode cX_add 46 = .ok (.getfield 15, 3) := by decide +kernel
theorem dX_add_49 : decode cX_add 49 = .ok (.iload_n 1, 1) := by decide +kernel
theorem dX_add_50 : decode cX_add 50 = .ok (.i2b, 1) := by decide +kernel
theorem dX_add_51 : decode cX_add 51 = .ok (.bastore, 1) := by decide +kernel
theorem dX_add_52 : decode cX_add 52 = .ok (.aload_n 0, 1) := by decide +kernel
theorem dX_add_53 : decode cX_add 53 = .ok (.dup, 1) := by decide +kernel
theorem dX_add_54 : decode cX_add 54 = .ok (.getfield 15, 3) := by decide +kernel
theorem dX_add_57 : decode cX_add 57 = .ok (.iconst 1, 1) := by decide +kernel
theorem dX_add_58 : decode cX_add 58 = .ok (.iadd, 1) := by decide +kernel
theorem dX_add_59 : decode cX_add 59 = .ok (.putfield 15, 3) := by decide +kernel
theorem dX_add_62 : decode cX_add 62 = .ok (.iinc 3 1, 3) := by decide +kernel
theorem dX_add_65 : decode cX_add 65 = .ok (.goto (-29), 3) := by decide +kernel
theorem dX_add_68 : decode cX_add 68 = .ok (.return_, 1) := by decide +kernel
theorem dS_init_0 : decode cS_init 0 = .ok (.aload_n 0, 1) := by decide +kernel
theorem dS_init_1 : decode cS_init 1 = .ok (.invokespecial 3, 3) := by decide +kernel
theorem dS_init_4 : decode cS_init 4 = .ok (.aload_n 0, 1) := by decide +kernel
theorem dS_init_5 : decode cS_init 5 = .ok (.new 9, 3) := by decide +kernel
theorem dS_init_8 : decode cS_init 8 = .ok (.dup, 1) := by decide +kernel
theorem dS_init_9 : decode cS_init 9 = .ok (.sipush 2000, 3) := by decide +kernel
theorem dS_init_12 : decode cS_init 12 = .ok (.invokespecial 11, 3) := by decide +kernel
theorem dS_init_15 : decode cS_init 15 = .ok (.putfield 14, 3) := by decide +kernel
theorem dS_init_18 : decode cS_init 18 = .ok (.aload_n 0, 1) := by decide +kernel
theorem dS_init_19 : decode cS_init 19 = .ok (.new 9, 3) := by decide +kernel
theorem dS_init_22 : decode cS_init 22 = .ok (.dup, 1) := by decide +kernel
theorem dS_init_23 : decode cS_init 23 = .ok (.sipush 2000, 3) := by decide +kernel
theorem dS_init_26 : decode cS_init 26 = .ok (.invokespecial 11, 3) := by decide +kernel
theorem dS_init_29 : decode cS_init 29 = .ok (.putfield 20, 3) := by decide +kernel
theorem dS_init_32 : decode cS_init 32 = .ok (.aload_n 0, 1) := by decide +kernel
theorem dS_init_33 : decode cS_init 33 = .ok (.new 23, 3) := by decide +kernel
theorem dS_init_36 : decode cS_init 36 = .ok (.dup, 1) := by decide +kernel
theorem dS_init_37 : decode cS_init 37 = .ok (.iconst 1, 1) := by decide +kernel
theorem dS_init_38 : decode cS_init 38 = .ok (.iconst 1, 1) := by decide +kernel
theorem dS_init_39 : decode cS_init 39 = .ok (.invokespecial 25, 3) := by decide +kernel
theorem dS_init_42 : decode cS_init 42 = .ok (.putfield 28, 3) := by decide +kernel
theorem dS_init_45 : decode cS_init 45 = .ok (.aload_n 0, 1) := by decide +kernel
theorem dS_init_46 : decode cS_init 46 = .ok (.new 23, 3) := by decide +kernel
theorem dS_init_49 : decode cS_init 49 = .ok (.dup, 1) := by decide +kernel
theorem dS_init_50 : decode cS_init 50 = .ok (.iconst 0, 1) := by decide +kernel
theorem dS_init_51 : decode cS_init 51 = .ok (.iconst 1, 1) := by decide +kernel
theorem dS_init_52 : decode cS_init 52 = .ok (.invokespecial 25, 3) := by decide +kernel
theorem dS_init_55 : decode cS_init 55 = .ok (.putfield 32, 3) := by decide +kernel
theorem dS_init_58 : decode cS_init 58 = .ok (.aload_n 0, 1) := by decide +kernel
theorem dS_init_59 : decode cS_init 59 = .ok (.new 23, 3) := by decide +kernel
theorem dS_init_62 : decode cS_init 62 = .ok (.dup, 1) := by decide +kernel
theorem dS_init_63 : decode cS_init 63 = .ok (.iconst 0, 1) := by decide +kernel
theorem dS_init_64 : decode cS_init 64 = .ok (.iconst 1, 1) := by decide +kernel
theorem dS_init_65 : decode cS_init 65 = .ok (.invokespecial 25, 3) := by decide +kernel
theorem dS_init_68 : decode cS_init 68 = .ok (.putfield 35, 3) := by decide +kernel
theorem dS_init_71 : decode cS_init 71 = .ok (.return_, 1) := by decide +kernel
theorem dS_join_0 : decode cS_join 0 = .ok (.aload_n 0, 1) := by decide +kernel
theorem dS_join_1 : decode cS_join 1 = .ok (.getfield 14, 3) := by decide +kernel
theorem dS_join_4 : decode cS_join 4 = .ok (.invokevirtual 38, 3) := by decide +kernel
theorem dS_join_7 : decode cS_join 7 = .ok (.aload_n 0, 1) := by decide +kernel
theorem dS_join_8 : decode cS_join 8 = .ok (.getfield 14, 3) := by decide +kernel
theorem dS_join_11 : decode cS_join 11 = .ok (.iconst (-1), 1) := by decide +kernel
theorem dS_join_12 : decode cS_join 12 = .ok (.invokevirtual 41, 3) := by decide +kernel
theorem dS_join_15 : decode cS_join 15 = .ok (.aload_n 0, 1) := by decide +kernel
theorem dS_join_16 : decode cS_join 16 = .ok (.getfield 14, 3) := by decide +kernel
theorem dS_join_19 : decode cS_join 19 = .ok (.aload_n 1, 1) := by decide +kernel
theorem dS_join_20 : decode cS_join 20 = .ok (.iconst 0, 1) := by decide +kernel
theorem dS_join_21 : decode cS_join 21 = .ok (.aload_n 1, 1) := by decide +kernel
theorem dS_join_22 : decode cS_join 22 = .ok (.getfield 44, 3) := by decide +kernel
theorem dS_join_25 : decode cS_join 25 = .ok (.invokevirtual 48, 3) := by decide +kernel
theorem dS_join_28 : decode cS_join 28 = .ok (.aload_n 0, 1) := by decide +kernel
theorem dS_join_29 : decode cS_join 29 = .ok (.getfield 14, 3) := by decide +kernel
theorem dS_join_32 : decode cS_join 32 = .ok (.aload_n 2, 1) := by decide +kernel
theorem dS_join_33 : decode cS_join 33 = .ok (.iconst 0, 1) := by decide +kernel
theorem dS_join_34 : decode cS_join 34 = .ok (.aload_n 2, 1) := by decide +kernel
theorem dS_join_35 : decode cS_join 35 = .ok (.getfield 44, 3) := by decide +kernel
theorem dS_join_38 : decode cS_join 38 = .ok (.invokevirtual 48, 3) := by decide +kernel
theorem dS_join_41 : decode cS_join 41 = .ok (.aload_n 0, 1) := by decide +kernel
theorem dS_join_42 : decode cS_join 42 = .ok (.invokevirtual 52, 3) := by decide +kernel
theorem dS_join_45 : decode cS_join 45 = .ok (.areturn, 1) := by decide +kernel
theorem dS_close_0 : decode cS_close 0 = .ok (.aload_n 0, 1) := by decide +kernel
theorem dS_close_1 : decode cS_close 1 = .ok (.getfield 14, 3) := by decide +kernel
theorem dS_close_4 : decode cS_close 4 = .ok (.invokevirtual 38, 3) := by decide +kernel
theorem dS_close_7 : decode cS_close 7 = .ok (.aload_n 0, 1) := by decide +kernel
theorem dS_close_8 : decode cS_close 8 = .ok (.getfield 14, 3) := by decide +kernel
theorem dS_close_11 : decode cS_close 11 = .ok (.bipush (-2), 2) := by decide +kernel
theorem dS_close_13 : decode cS_close 13 = .ok (.invokevirtual 41, 3) := by decide +kernel
theorem dS_close_16 : decode cS_close 16 = .ok (.aload_n 0, 1) := by decide +kernel
theorem dS_close_17 : decode cS_close 17 = .ok (.getfield 32, 3) := by decide +kernel
theorem dS_close_20 : decode cS_close 20 = .ok (.invokevirtual 56, 3) := by decide +kernel
theorem dS_close_23 : decode cS_close 23 = .ok (.iconst 0, 1) := by decide +kernel
theorem dS_close_24 : decode cS_close 24 = .ok (.istore_n 3, 1) := by decide +kernel
theorem dS_close_25 : decode cS_close 25 = .ok (.iload_n 3, 1) := by decide +kernel
theorem dS_close_26 : decode cS_close 26 = .ok (.aload_n 1, 1) := by decide +kernel
theorem dS_close_27 : decode cS_close 27 = .ok (.getfield 44, 3) := by decide +kernel
theorem dS_close_30 : decode cS_close 30 = .ok (.if_icmp .ge 54, 3) := by decide +kernel
theorem dS_close_33 : decode cS_close 33 = .ok (.aload_n 1, 1) := by decide +kernel
theorem dS_close_34 : decode cS_close 34 = .ok (.getfield 59, 3) := by decide +kernel
theorem dS_close_37 : decode cS_close 37 = .ok (.iload_n 3, 1) := by decide +kernel
theorem dS_close_38 : decode cS_close 38 = .ok (.iaload, 1) := by decide +kernel
theorem dS_close_39 : decode cS_close 39 = .ok (.istore 4, 2) := by decide +kernel
theorem dS_close_41 : decode cS_close 41 = .ok (.aload_n 0, 1) := by decide +kernel
theorem dS_close_42 : decode cS_close 42 = .ok (.getfield 14, 3) := by decide +kernel
theorem dS_close_45 : decode cS_close 45 = .ok (.iload 4, 2) := by decide +kernel
theorem dS_close_47 : decode cS_close 47 = .ok (.iload_n 2, 1) := by decide +kernel
theorem dS_close_48 : decode cS_close 48 = .ok (.if_icmp .ne 16, 3) := by decide +kernel
theorem dS_close_51 : decode cS_close 51 = .ok (.bipush 100, 2) := by decide +kernel
theorem dS_close_53 : decode cS_close 53 = .ok (.aload_n 0, 1) := by decide +kernel
theorem dS_close_54 : decode cS_close 54 = .ok (.getfield 32, 3) := by decide +kernel
theorem dS_close_57 : decode cS_close 57 = .ok (.getfield 63, 3) := by decide +kernel
theorem dS_close_60 : decode cS_close 60 = .ok (.iadd, 1) := by decide +kernel
theorem dS_close_61 : decode cS_close 61 = .ok (.goto 5, 3) := by decide +kernel
theorem dS_close_64 : decode cS_close 64 = .ok (.iload 4, 2) := by decide +kernel
theorem dS_close_66 : decode cS_close 66 = .ok (.invokevirtual 41, 3) := by decide +kernel
theorem dS_close_69 : decode cS_close 69 = .ok (.aload_n 0, 1) := by decide +kernel
theorem dS_close_70 : decode cS_close 70 = .ok (.getfield 32, 3) := by decide +kernel
theorem dS_close_73 : decode cS_close 73 = .ok (.iload 4, 2) := by decide +kernel
theorem dS_close_75 : decode cS_close 75 = .ok (.invokevirtual 66, 3) := by decide +kernel
theorem dS_close_78 : decode cS_close 78 = .ok (.iinc 3 1, 3) := by decide +kernel
theorem dS_close_81 : decode cS_close 81 = .ok (.goto (-56), 3) := by decide +kernel
theorem dS_close_84 : decode cS_close 84 = .ok (.aload_n 0, 1) := by decide +kernel
theorem dS_close_85 : decode cS_close 85 = .ok (.invokevirtual 52, 3) := by decide +kernel
theorem dS_close_88 : decode cS_close 88 = .ok (.areturn, 1) := by decide +kernel
theorem dS_replace_0 : decode cS_replace 0 = .ok (.aload_n 0, 1) := by decide +kernel
theorem dS_replace_1 : decode cS_replace 1 = .ok (.getfield 14, 3) := by decide +kernel
theorem dS_replace_4 : decode cS_replace 4 = .ok (.invokevirtual 38, 3) := by decide +kernel
theorem dS_replace_7 : decode cS_replace 7 = .ok (.iconst 0, 1) := by decide +kernel
theorem dS_replace_8 : decode cS_replace 8 = .ok (.istore 4, 2) := by decide +kernel
theorem dS_replace_10 : decode cS_replace 10 = .ok (.iload 4, 2) := by decide +kernel
theorem dS_replace_12 : decode cS_replace 12 = .ok (.aload_n 1, 1) := by decide +kernel
theorem dS_replace_13 : decode cS_replace 13 = .ok (.getfield 44, 3) := by decide +kernel
theorem dS_replace_16 : decode cS_replace 16 = .ok (.if_icmp .ge 50, 3) := by decide +kernel
theorem dS_replace_19 : decode cS_replace 19 = .ok (.aload_n 1, 1) := by decide +kernel
theorem dS_replace_20 : decode cS_replace 20 = .ok (.getfield 59, 3) := by decide +kernel
theorem dS_replace_23 : decode cS_replace 23 = .ok (.iload 4, 2) := by decide +kernel
theorem dS_replace_25 : decode cS_replace 25 = .ok (.iaload, 1) := by decide +kernel
theorem dS_replace_26 : decode cS_replace 26 = .ok (.iload_n 2, 1) := by decide +kernel
theorem dS_replace_27 : decode cS_replace 27 = .ok (.if_icmp .ne 19, 3) := by decide +kernel
theorem dS_replace_30 : decode cS_replace 30 = .ok (.aload_n 0, 1) := by decide +kernel
theorem dS_replace_31 : decode cS_replace 31 = .ok (.getfield 14, 3) := by decide +kernel
theorem dS_replace_34 : decode cS_replace 34 = .ok (.aload_n 3, 1) := by decide +kernel
theorem dS_replace_35 : decode cS_replace 35 = .ok (.iconst 0, 1) := by decide +kernel
theorem dS_replace_36 : decode cS_replace 36 = .ok (.aload_n 3, 1) := by decide +kernel
theorem dS_replace_37 : decode cS_replace 37 = .ok (.getfield 44, 3) := by decide +kernel
theorem dS_replace_40 : decode cS_replace 40 = .ok (.invokevirtual 48, 3) := by decide +kernel
theorem dS_replace_43 : decode cS_replace 43 = .ok (.goto 17, 3) := by decide +kernel
theorem dS_replace_46 : decode cS_replace 46 = .ok (.aload_n 0, 1) := by decide +kernel
theorem dS_replace_47 : decode cS_replace 47 = .ok (.getfield 14, 3) := by decide +kernel
theorem dS_replace_50 : decode cS_replace 50 = .ok (.aload_n 1, 1) := by decide +kernel
theorem dS_replace_51 : decode cS_replace 51 = .ok (.getfield 59, 3) := by decide +kernel
theorem dS_replace_54 : decode cS_replace 54 = .ok (.iload 4, 2) := by decide +kernel
theorem dS_replace_56 : decode cS_replace 56 = .ok (.iaload, 1) := by decide +kernel
theorem dS_replace_57 : decode cS_replace 57 = .ok (.invokevirtual 41, 3) := by decide +kernel
theorem dS_replace_60 : decode cS_replace 60 = .ok (.iinc 4 1, 3) := by decide +kernel
theorem dS_replace_63 : decode cS_replace 63 = .ok (.goto (-53), 3) := by decide +kernel
theorem dS_replace_66 : decode cS_replace 66 = .ok (.aload_n 0, 1) := by decide +kernel
theorem dS_replace_67 : decode cS_replace 67 = .ok (.invokevirtual 52, 3) := by decide +kernel
theorem dS_replace_70 : decode cS_replace 70 = .ok (.areturn, 1) := by decide +kernel
theorem dS_fill_0 : decode cS_fill 0 = .ok (.aload_n 0, 1) := by decide +kernel
theorem dS_fill_1 : decode cS_fill 1 = .ok (.getfield 14, 3) := by decide +kernel
theorem dS_fill_4 : decode cS_fill 4 = .ok (.invokevirtual 38, 3) := by decide +kernel
theorem dS_fill_7 : decode cS_fill 7 = .ok (.aload_n 0, 1) := by decide +kernel
theorem dS_fill_8 : decode cS_fill 8 = .ok (.aload_n 1, 1) := by decide +kernel
theorem dS_fill_9 : decode cS_fill 9 = .ok (.iconst 1, 1) := by decide +kernel
theorem dS_fill_10 : decode cS_fill 10 = .ok (.aload_n 1, 1) := by decide +kernel
theorem dS_fill_11 : decode cS_fill 11 = .ok (.getfield 44, 3) := by decide +kernel
theorem dS_fill_14 : decode cS_fill 14 = .ok (.aload_n 2, 1) := by decide +kernel
theorem dS_fill_15 : decode cS_fill 15 = .ok (.iconst 0, 1) := by decide +kernel
theorem dS_fill_16 : decode cS_fill 16 = .ok (.aload_n 2, 1) := by decide +kernel
theorem dS_fill_17 : decode cS_fill 17 = .ok (.getfield 44, 3) := by decide +kernel
theorem dS_fill_20 : decode cS_fill 20 = .ok (.invokevirtual 69, 3) := by decide +kernel
theorem dS_fill_23 : decode cS_fill 23 = .ok (.aload_n 0, 1) := by decide +kernel
theorem dS_fill_24 : decode cS_fill 24 = .ok (.invokevirtual 52, 3) := by decide +kernel
theorem dS_fill_27 : decode cS_fill 27 = .ok (.areturn, 1) := by decide +kernel
theorem dS_cut_0 : decode cS_cut 0 = .ok (.aload_n 1, 1) := by decide +kernel
theorem dS_cut_1 : decode cS_cut 1 = .ok (.iconst 1, 1) := by decide +kernel
theorem dS_cut_2 : decode cS_cut 2 = .ok (.invokevirtual 73, 3) := by decide +kernel
theorem dS_cut_5 : decode cS_cut 5 = .ok (.istore_n 3, 1) := by decide +kernel
theorem dS_cut_6 : decode cS_cut 6 = .ok (.aload_n 0, 1) := by decide +kernel
theorem dS_cut_7 : decode cS_cut 7 = .ok (.getfield 14, 3) := by decide +kernel
theorem dS_cut_10 : decode cS_cut 10 = .ok (.invokevirtual 38, 3) := by decide +kernel
theorem dS_cut_13 : decode cS_cut 13 = .ok (.iload_n 2, 1) := by decide +kernel
theorem dS_cut_14 : decode cS_cut 14 = .ok (.ifCond .eq 19, 3) := by decide +kernel
theorem dS_cut_17 : decode cS_cut 17 = .ok (.aload_n 0, 1) := by decide +kernel
theorem dS_cut_18 : decode cS_cut 18 = .ok (.getfield 14, 3) := by decide +kernel
theorem dS_cut_21 : decode cS_cut 21 = .ok (.aload_n 1, 1) := by decide +kernel
theorem dS_cut_22 : decode cS_cut 22 = .ok (.iload_n 3, 1) := by decide +kernel
theorem dS_cut_23 : decode cS_cut 23 = .ok (.aload_n 1, 1) := by decide +kernel
theorem dS_cut_24 : decode cS_cut 24 = .ok (.getfield 44, 3) := by decide +kernel
theorem dS_cut_27 : decode cS_cut 27 = .ok (.invokevirtual 48, 3) := by decide +kernel
theorem dS_cut_30 : decode cS_cut 30 = .ok (.goto 13, 3) := by decide +kernel
theorem dS_cut_33 : decode cS_cut 33 = .ok (.aload_n 0, 1) := by decide +kernel
theorem dS_cut_34 : decode cS_cut 34 = .ok (.getfield 14, 3) := by decide +kernel
theorem dS_cut_37 : decode cS_cut 37 = .ok (.aload_n 1, 1) := by decide +kernel
theorem dS_cut_38 : decode cS_cut 38 = .ok (.iconst 1, 1) := by decide +kernel
theorem dS_cut_39 : decode cS_cut 39 = .ok (.iload_n 3, 1) := by decide +kernel
theorem dS_cut_40 : decode cS_cut 40 = .ok (.invokevirtual 48, 3) := by decide +kernel
theorem dS_cut_43 : decode cS_cut 43 = .ok (.aload_n 0, 1) := by decide +kernel
theorem dS_cut_44 : decode cS_cut 44 = .ok (.getfield 14, 3) := by decide +kernel
theorem dS_cut_47 : decode cS_cut 47 = .ok (.areturn, 1) := by decide +kernel
theorem dS_contract_0 : decode cS_contract 0 = .ok (.aload_n 1, 1) := by decide +kernel
theorem dS_contract_1 : decode cS_contract 1 = .ok (.iload_n 2, 1) := by decide +kernel
theorem dS_contract_2 : decode cS_contract 2 = .ok (.iconst 1, 1) := by decide +kernel
theorem dS_contract_3 : decode cS_contract 3 = .ok (.iadd, 1) := by decide +kernel
theorem dS_contract_4 : decode cS_contract 4 = .ok (.invokevirtual 73, 3) := by decide +kernel
theorem dS_contract_7 : decode cS_contract 7 = .ok (.istore_n 3, 1) := by decide +kernel
theorem dS_contract_8 : decode cS_contract 8 = .ok (.aload_n 1, 1) := by decide +kernel
theorem dS_contract_9 : decode cS_contract 9 = .ok (.iload_n 3, 1) := by decide +kernel
theorem dS_contract_10 : decode cS_contract 10 = .ok (.invokevirtual 73, 3) := by decide +kernel
theorem dS_contract_13 : decode cS_contract 13 = .ok (.istore 4, 2) := by decide +kernel
theorem dS_contract_15 : decode cS_contract 15 = .ok (.aload_n 0, 1) := by decide +kernel
theorem dS_contract_16 : decode cS_contract 16 = .ok (.getfield 14, 3) := by decide +kernel
theorem dS_contract_19 : decode cS_contract 19 = .ok (.invokevirtual 38, 3) := by decide +kernel
theorem dS_contract_22 : decode cS_contract 22 = .ok (.aload_n 0, 1) := by decide +kernel
theorem dS_contract_23 : decode cS_contract 23 = .ok (.getfield 14, 3) := by decide +kernel
theorem dS_contract_26 : decode cS_contract 26 = .ok (.aload_n 1, 1) := by decide +kernel
theorem dS_contract_27 : decode cS_contract 27 = .ok (.iconst 0, 1) := by decide +kernel
theorem dS_contract_28 : decode cS_contract 28 = .ok (.iload_n 2, 1) := by decide +kernel
theorem dS_contract_29 : decode cS_contract 29 = .ok (.invokevirtual 48, 3) := by decide +kernel
theorem dS_contract_32 : decode cS_contract 32 = .ok (.aload_n 0, 1) := by decide +kernel
theorem dS_contract_33 : decode cS_contract 33 = .ok (.aload_n 1, 1) := by decide +kernel
theorem dS_contract_34 : decode cS_contract 34 = .ok (.iload_n 2, 1) := by decide +kernel
theorem dS_contract_35 : decode cS_contract 35 = .ok (.iconst 2, 1) := by decide +kernel
theorem dS_contract_36 : decode cS_contract 36 = .ok (.iadd, 1) := by decide +kernel
theorem dS_contract_37 : decode cS_contract 37 = .ok (.iload_n 3, 1) := by decide +kernel
theorem dS_contract_38 : decode cS_contract 38 = .ok (.aload_n 1, 1) := by decide +kernel
theorem dS_contract_39 : decode cS_contract 39 = .ok (.iload_n 3, 1) := by decide +kernel
theorem dS_contract_40 : decode cS_contract 40 = .ok (.iload 4, 2) := by decide +kernel
theorem dS_contract_42 : decode cS_contract 42 = .ok (.invokevirtual 69, 3) := by decide +kernel
theorem dS_contract_45 : decode cS_contract 45 = .ok (.aload_n 0, 1) := by decide +kernel
theorem dS_contract_46 : decode cS_contract 46 = .ok (.getfield 14, 3) := by decide +kernel
theorem dS_contract_49 : decode cS_contract 49 = .ok (.aload_n 1, 1) := by decide +kernel
theorem dS_contract_50 : decode cS_contract 50 = .ok (.iload 4, 2) := by decide +kernel
theorem dS_contract_52 : decode cS_contract 52 = .ok (.aload_n 1, 1) := by decide +kernel
theorem dS_contract_53 : decode cS_contract 53 = .ok (.getfield 44, 3) := by decide +kernel
theorem dS_contract_56 : decode cS_contract 56 = .ok (.invokevirtual 48, 3) := by decide +kernel
theorem dS_contract_59 : decode cS_contract 59 = .ok (.aload_n 0, 1) := by decide +kernel
theorem dS_contract_60 : decode cS_contract 60 = .ok (.invokevirtual 52, 3) := by decide +kernel
theorem dS_contract_63 : decode cS_contract 63 = .ok (.areturn, 1) := by decide +kernel
theorem dS_reduce_0 : decode cS_reduce 0 = .ok (.aload_n 0, 1) := by decide +kernel
theorem dS_reduce_1 : decode cS_reduce 1 = .ok (.getfield 20, 3) := by decide +kernel
theorem dS_reduce_4 : decode cS_reduce 4 = .ok (.aload_n 1, 1) := by decide +kernel
theorem dS_reduce_5 : decode cS_reduce 5 = .ok (.invokevirtual 77, 3) := by decide +kernel
theorem dS_reduce_8 : decode cS_reduce 8 = .ok (.pop, 1) := by decide +kernel
theorem dS_reduce_9 : decode cS_reduce 9 = .ok (.iconst 0, 1) := by decide +kernel
theorem dS_reduce_10 : decode cS_reduce 10 = .ok (.istore_n 3, 1) := by decide +kernel
theorem dS_reduce_11 : decode cS_reduce 11 = .ok (.iconst 0, 1) := by decide +kernel
theorem dS_reduce_12 : decode cS_reduce 12 = .ok (.istore 4, 2) := by decide +kernel
theorem dS_reduce_14 : decode cS_reduce 14 = .ok (.iload 4, 2) := by decide +kernel
theorem dS_reduce_16 : decode cS_reduce 16 = .ok (.sipush 300, 3) := by decide +kernel
theorem dS_reduce_19 : decode cS_reduce 19 = .ok (.if_icmp .gt 77, 3) := by decide +kernel
theorem dS_reduce_22 : decode cS_reduce 22 = .ok (.iload_n 2, 1) := by decide +kernel
theorem dS_reduce_23 : decode cS_reduce 23 = .ok (.ifCond .eq 13, 3) := by decide +kernel
theorem dS_reduce_26 : decode cS_reduce 26 = .ok (.aload_n 0, 1) := by decide +kernel
theorem dS_reduce_27 : decode cS_reduce 27 = .ok (.getfield 20, 3) := by decide +kernel
theorem dS_reduce_30 : decode cS_reduce 30 = .ok (.invokevirtual 81, 3) := by decide +kernel
theorem dS_reduce_33 : decode cS_reduce 33 = .ok (.goto 11, 3) := by decide +kernel
theorem dS_reduce_36 : decode cS_reduce 36 = .ok (.aload_n 0, 1) := by decide +kernel
theorem dS_reduce_37 : decode cS_reduce 37 = .ok (.getfield 20, 3) := by decide +kernel
theorem dS_reduce_40 : decode cS_reduce 40 = .ok (.iload_n 3, 1) := by decide +kernel
theorem dS_reduce_41 : decode cS_reduce 41 = .ok (.invokevirtual 85, 3) := by decide +kernel
theorem dS_reduce_44 : decode cS_reduce 44 = .ok (.istore 5, 2) := by decide +kernel
theorem dS_reduce_46 : decode cS_reduce 46 = .ok (.iload 5, 2) := by decide +kernel
theorem dS_reduce_48 : decode cS_reduce 48 = .ok (.iconst (-1), 1) := by decide +kernel
theorem dS_reduce_49 : decode cS_reduce 49 = .ok (.if_icmp .ne 6, 3) := by decide +kernel
theorem dS_reduce_52 : decode cS_reduce 52 = .ok (.iload 4, 2) := by decide +kernel
theorem dS_reduce_54 : decode cS_reduce 54 = .ok (.ireturn, 1) := by decide +kernel
theorem dS_reduce_55 : decode cS_reduce 55 = .ok (.aload_n 0, 1) := by decide +kernel
theorem dS_reduce_56 : decode cS_reduce 56 = .ok (.aload_n 0, 1) := by decide +kernel
theorem dS_reduce_57 : decode cS_reduce 57 = .ok (.getfield 20, 3) := by decide +kernel
theorem dS_reduce_60 : decode cS_reduce 60 = .ok (.iload 5, 2) := by decide +kernel
theorem dS_reduce_62 : decode cS_reduce 62 = .ok (.invokevirtual 88, 3) := by decide +kernel
theorem dS_reduce_65 : decode cS_reduce 65 = .ok (.astore 6, 2) := by decide +kernel
theorem dS_reduce_67 : decode cS_reduce 67 = .ok (.aload_n 0, 1) := by decide +kernel
theorem dS_reduce_68 : decode cS_reduce 68 = .ok (.aload_n 0, 1) := by decide +kernel
theorem dS_reduce_69 : decode cS_reduce 69 = .ok (.getfield 20, 3) := by decide +kernel
theorem dS_reduce_72 : decode cS_reduce 72 = .ok (.putfield 14, 3) := by decide +kernel
theorem dS_reduce_75 : decode cS_reduce 75 = .ok (.aload_n 0, 1) := by decide +kernel
theorem dS_reduce_76 : decode cS_reduce 76 = .ok (.aload 6, 2) := by decide +kernel
theorem dS_reduce_78 : decode cS_reduce 78 = .ok (.putfield 20, 3) := by decide +kernel
theorem dS_reduce_81 : decode cS_reduce 81 = .ok (.iconst 0, 1) := by decide +kernel
theorem dS_reduce_82 : decode cS_reduce 82 = .ok (.iload 5, 2) := by decide +kernel
theorem dS_reduce_84 : decode cS_reduce 84 = .ok (.iconst 1, 1) := by decide +kernel
theorem dS_reduce_85 : decode cS_reduce 85 = .ok (.isub, 1) := by decide +kernel
theorem dS_reduce_86 : decode cS_reduce 86 = .ok (.invokestatic 92, 3) := by decide +kernel
theorem dS_reduce_89 : decode cS_reduce 89 = .ok (.istore_n 3, 1) := by decide +kernel
theorem dS_reduce_90 : decode cS_reduce 90 = .ok (.iinc 4 1, 3) := by decide +kernel
theorem dS_reduce_93 : decode cS_reduce 93 = .ok (.goto (-79), 3) := by decide +kernel
theorem dS_reduce_96 : decode cS_reduce 96 = .ok (.new 98, 3) := by decide +kernel
theorem dS_reduce_99 : decode cS_reduce 99 = .ok (.dup, 1) := by decide +kernel
theorem dS_reduce_100 : decode cS_reduce 100 = .ok (.ldc 100, 2) := by decide +kernel
theorem dS_reduce_102 : decode cS_reduce 102 = .ok (.invokespecial 102, 3) := by decide +kernel
theorem dS_reduce_105 : decode cS_reduce 105 = .ok (.athrow, 1) := by decide +kernel
theorem dS_reduced_0 : decode cS_reduced 0 = .ok (.aload_n 0, 1) := by decide +kernel
theorem dS_reduced_1 : decode cS_reduced 1 = .ok (.getfield 20, 3) := by decide +kernel
theorem dS_reduced_4 : decode cS_reduced 4 = .ok (.areturn, 1) := by decide +kernel
theorem dS_addFilled_0 : decode cS_addFilled 0 = .ok (.aload_n 0, 1) := by decide +kernel
theorem dS_addFilled_1 : decode cS_addFilled 1 = .ok (.getfield 32, 3) := by decide +kernel
theorem dS_addFilled_4 : decode cS_addFilled 4 = .ok (.invokevirtual 56, 3) := by decide +kernel
theorem dS_addFilled_7 : decode cS_addFilled 7 = .ok (.iload_n 2, 1) := by decide +kernel
theorem dS_addFilled_8 : decode cS_addFilled 8 = .ok (.istore 7, 2) := by decide +kernel
theorem dS_addFilled_10 : decode cS_addFilled 10 = .ok (.iload 7, 2) := by decide +kernel
theorem dS_addFilled_12 : decode cS_addFilled 12 = .ok (.iload_n 3, 1) := by decide +kernel
theorem dS_addFilled_13 : decode cS_addFilled 13 = .ok (.if_icmp .ge 89, 3) := by decide +kernel
theorem dS_addFilled_16 : decode cS_addFilled 16 = .ok (.aload_n 1, 1) := by decide +kernel
theorem dS_addFilled_17 : decode cS_addFilled 17 = .ok (.getfield 59, 3) := by decide +kernel
theorem dS_addFilled_20 : decode cS_addFilled 20 = .ok (.iload 7, 2) := by decide +kernel
theorem dS_addFilled_22 : decode cS_addFilled 22 = .ok (.iaload, 1) := by decide +kernel
theorem dS_addFilled_23 : decode cS_addFilled 23 = .ok (.istore 8, 2) := by decide +kernel
theorem dS_addFilled_25 : decode cS_addFilled 25 = .ok (.bipush 100, 2) := by decide +kernel
theorem dS_addFilled_27 : decode cS_addFilled 27 = .ok (.aload_n 0, 1) := by decide +kernel
theorem dS_addFilled_28 : decode cS_addFilled 28 = .ok (.getfield 32, 3) := by decide +kernel
theorem dS_addFilled_31 : decode cS_addFilled 31 = .ok (.getfield 63, 3) := by decide +kernel
theorem dS_addFilled_34 : decode cS_addFilled 34 = .ok (.iadd, 1) := by decide +kernel
theorem dS_addFilled_35 : decode cS_addFilled 35 = .ok (.istore 9, 2) := by decide +kernel
theorem dS_addFilled_37 : decode cS_addFilled 37 = .ok (.iload 8, 2) := by decide +kernel
theorem dS_addFilled_39 : decode cS_addFilled 39 = .ok (.iload 9, 2) := by decide +kernel
theorem dS_addFilled_41 : decode cS_addFilled 41 = .ok (.if_icmp .ne 23, 3) := by decide +kernel
theorem dS_addFilled_44 : decode cS_addFilled 44 = .ok (.aload_n 0, 1) := by decide +kernel
theorem dS_addFilled_45 : decode cS_addFilled 45 = .ok (.aload 4, 2) := by decide +kernel
theorem dS_addFilled_47 : decode cS_addFilled 47 = .ok (.iload 5, 2) := by decide +kernel
theorem dS_addFilled_49 : decode cS_addFilled 49 = .ok (.iload 6, 2) := by decide +kernel
theorem dS_addFilled_51 : decode cS_addFilled 51 = .ok (.aload_n 0, 1) := by decide +kernel
theorem dS_addFilled_52 : decode cS_addFilled 52 = .ok (.getfield 32, 3) := by decide +kernel
theorem dS_addFilled_55 : decode cS_addFilled 55 = .ok (.getfield 63, 3) := by decide +kernel
theorem dS_addFilled_58 : decode cS_addFilled 58 = .ok (.invokevirtual 105, 3) := by decide +kernel
theorem dS_addFilled_61 : decode cS_addFilled 61 = .ok (.goto 26, 3) := by decide +kernel
theorem dS_addFilled_64 : decode cS_addFilled 64 = .ok (.aload_n 0, 1) := by decide +kernel
theorem dS_addFilled_65 : decode cS_addFilled 65 = .ok (.getfield 14, 3) := by decide +kernel
theorem dS_addFilled_68 : decode cS_addFilled 68 = .ok (.iload 8, 2) := by decide +kernel
theorem dS_addFilled_70 : decode cS_addFilled 70 = .ok (.iload 9, 2) := by decide +kernel
theorem dS_addFilled_72 : decode cS_addFilled 72 = .ok (.if_icmp .le 10, 3) := by decide +kernel
theorem dS_addFilled_75 : decode cS_addFilled 75 = .ok (.iload 8, 2) := by decide +kernel
theorem dS_addFilled_77 : decode cS_addFilled 77 = .ok (.iconst 1, 1) := by decide +kernel
theorem dS_addFilled_78 : decode cS_addFilled 78 = .ok (.isub, 1) := by decide +kernel
theorem dS_addFilled_79 : decode cS_addFilled 79 = .ok (.goto 5, 3) := by decide +kernel
theorem dS_addFilled_82 : decode cS_addFilled 82 = .ok (.iload 8, 2) := by decide +kernel
theorem dS_addFilled_84 : decode cS_addFilled 84 = .ok (.invokevirtual 41, 3) := by decide +kernel
theorem dS_addFilled_87 : decode cS_addFilled 87 = .ok (.aload_n 0, 1) := by decide +kernel
theorem dS_addFilled_88 : decode cS_addFilled 88 = .ok (.getfield 32, 3) := by decide +kernel
theorem dS_addFilled_91 : decode cS_addFilled 91 = .ok (.iload 8, 2) := by decide +kernel
theorem dS_addFilled_93 : decode cS_addFilled 93 = .ok (.invokevirtual 66, 3) := by decide +kernel
theorem dS_addFilled_96 : decode cS_addFilled 96 = .ok (.iinc 7 1, 3) := by decide +kernel
theorem dS_addFilled_99 : decode cS_addFilled 99 = .ok (.goto (-89), 3) := by decide +kernel
theorem dS_addFilled_102 : decode cS_addFilled 102 = .ok (.return_, 1) := by decide +kernel
theorem dS_addRaised_0 : decode cS_addRaised 0 = .ok (.iload 4, 2) := by decide +kernel
theorem dS_addRaised_2 : decode cS_addRaised 2 = .ok (.ifCond .eq 16, 3) := by decide +kernel
theorem dS_addRaised_5 : decode cS_addRaised 5 = .ok (.aload_n 0, 1) := by decide +kernel
theorem dS_addRaised_6 : decode cS_addRaised 6 = .ok (.getfield 14, 3) := by decide +kernel
theorem dS_addRaised_9 : decode cS_addRaised 9 = .ok (.iload_n 3, 1) := by decide +kernel
theorem dS_addRaised_10 : decode cS_addRaised 10 = .ok (.iload_n 2, 1) := by decide +kernel
theorem dS_addRaised_11 : decode cS_addRaised 11 = .ok (.isub, 1) := by decide +kernel
theorem dS_addRaised_12 : decode cS_addRaised 12 = .ok (.invokevirtual 109, 3) := by decide +kernel
theorem dS_addRaised_15 : decode cS_addRaised 15 = .ok (.ifCond .ne 14, 3) := by decide +kernel
theorem dS_addRaised_18 : decode cS_addRaised 18 = .ok (.aload_n 0, 1) := by decide +kernel
theorem dS_addRaised_19 : decode cS_addRaised 19 = .ok (.getfield 14, 3) := by decide +kernel
theorem dS_addRaised_22 : decode cS_addRaised 22 = .ok (.aload_n 1, 1) := by decide +kernel
theorem dS_addRaised_23 : decode cS_addRaised 23 = .ok (.iload_n 2, 1) := by decide +kernel
theorem dS_addRaised_24 : decode cS_addRaised 24 = .ok (.iload_n 3, 1) := by decide +kernel
theorem dS_addRaised_25 : decode cS_addRaised 25 = .ok (.invokevirtual 48, 3) := by decide +kernel
theorem dS_addRaised_28 : decode cS_addRaised 28 = .ok (.return_, 1) := by decide +kernel
theorem dS_addRaised_29 : decode cS_addRaised 29 = .ok (.aload_n 0, 1) := by decide +kernel
theorem dS_addRaised_30 : decode cS_addRaised 30 = .ok (.getfield 35, 3) := by decide +kernel
theorem dS_addRaised_33 : decode cS_addRaised 33 = .ok (.invokevirtual 56, 3) := by decide +kernel
theorem dS_addRaised_36 : decode cS_addRaised 36 = .ok (.iload_n 2, 1) := by decide +kernel
theorem dS_addRaised_37 : decode cS_addRaised 37 = .ok (.istore 5, 2) := by decide +kernel
theorem dS_addRaised_39 : decode cS_addRaised 39 = .ok (.iload 5, 2) := by decide +kernel
theorem dS_addRaised_41 : decode cS_addRaised 41 = .ok (.iload_n 3, 1) := by decide +kernel
theorem dS_addRaised_42 : decode cS_addRaised 42 = .ok (.if_icmp .ge 59, 3) := by decide +kernel
theorem dS_addRaised_45 : decode cS_addRaised 45 = .ok (.aload_n 1, 1) := by decide +kernel
theorem dS_addRaised_46 : decode cS_addRaised 46 = .ok (.getfield 59, 3) := by decide +kernel
theorem dS_addRaised_49 : decode cS_addRaised 49 = .ok (.iload 5, 2) := by decide +kernel
theorem dS_addRaised_51 : decode cS_addRaised 51 = .ok (.iaload, 1) := by decide +kernel
theorem dS_addRaised_52 : decode cS_addRaised 52 = .ok (.istore 6, 2) := by decide +kernel
theorem dS_addRaised_54 : decode cS_addRaised 54 = .ok (.aload_n 0, 1) := by decide +kernel
theorem dS_addRaised_55 : decode cS_addRaised 55 = .ok (.getfield 14, 3) := by decide +kernel
theorem dS_addRaised_58 : decode cS_addRaised 58 = .ok (.iload 6, 2) := by decide +kernel
theorem dS_addRaised_60 : decode cS_addRaised 60 = .ok (.bipush 99, 2) := by decide +kernel
theorem dS_addRaised_62 : decode cS_addRaised 62 = .ok (.aload_n 0, 1) := by decide +kernel
theorem dS_addRaised_63 : decode cS_addRaised 63 = .ok (.getfield 35, 3) := by decide +kernel
theorem dS_addRaised_66 : decode cS_addRaised 66 = .ok (.getfield 63, 3) := by decide +kernel
theorem dS_addRaised_69 : decode cS_addRaised 69 = .ok (.iadd, 1) := by decide +kernel
theorem dS_addRaised_70 : decode cS_addRaised 70 = .ok (.if_icmp .le 11, 3) := by decide +kernel
theorem dS_addRaised_73 : decode cS_addRaised 73 = .ok (.iload 6, 2) := by decide +kernel
theorem dS_addRaised_75 : decode cS_addRaised 75 = .ok (.iload 4, 2) := by decide +kernel
theorem dS_addRaised_77 : decode cS_addRaised 77 = .ok (.iadd, 1) := by decide +kernel
theorem dS_addRaised_78 : decode cS_addRaised 78 = .ok (.goto 5, 3) := by decide +kernel
theorem dS_addRaised_81 : decode cS_addRaised 81 = .ok (.iload 6, 2) := by decide +kernel
theorem dS_addRaised_83 : decode cS_addRaised 83 = .ok (.invokevirtual 41, 3) := by decide +kernel
theorem dS_addRaised_86 : decode cS_addRaised 86 = .ok (.aload_n 0, 1) := by decide +kernel
theorem dS_addRaised_87 : decode cS_addRaised 87 = .ok (.getfield 35, 3) := by decide +kernel
theorem dS_addRaised_90 : decode cS_addRaised 90 = .ok (.iload 6, 2) := by decide +kernel
theorem dS_addRaised_92 : decode cS_addRaised 92 = .ok (.invokevirtual 66, 3) := by decide +kernel
theorem dS_addRaised_95 : decode cS_addRaised 95 = .ok (.iinc 5 1, 3) := by decide +kernel
theorem dS_addRaised_98 : decode cS_addRaised 98 = .ok (.goto (-59), 3) := by decide +kernel
theorem dS_addRaised_101 : decode cS_addRaised 101 = .ok (.return_, 1) := by decide +kernel
theorem dS_checked_0 : decode cS_checked 0 = .ok (.aload_n 0, 1) := by decide +kernel
theorem dS_checked_1 : decode cS_checked 1 = .ok (.getfield 14, 3) := by decide +kernel
theorem dS_checked_4 : decode cS_checked 4 = .ok (.getfield 44, 3) := by decide +kernel
theorem dS_checked_7 : decode cS_checked 7 = .ok (.sipush 2000, 3) := by decide +kernel
theorem dS_checked_10 : decode cS_checked 10 = .ok (.if_icmp .gt 14, 3) := by decide +kernel
theorem dS_checked_13 : decode cS_checked 13 = .ok (.aload_n 0, 1) := by decide +kernel
theorem dS_checked_14 : decode cS_checked 14 = .ok (.aload_n 0, 1) := by decide +kernel
theorem dS_checked_15 : decode cS_checked 15 = .ok (.getfield 14, 3) := by decide +kernel
theorem dS_checked_18 : decode cS_checked 18 = .ok (.invokevirtual 113, 3) := by decide +kernel
theorem dS_checked_21 : decode cS_checked 21 = .ok (.ifCond .eq 13, 3) := by decide +kernel
theorem dS_checked_24 : decode cS_checked 24 = .ok (.new 117, 3) := by decide +kernel
theorem dS_checked_27 : decode cS_checked 27 = .ok (.dup, 1) := by decide +kernel
theorem dS_checked_28 : decode cS_checked 28 = .ok (.ldc 119, 2) := by decide +kernel
theorem dS_checked_30 : decode cS_checked 30 = .ok (.invokespecial 121, 3) := by decide +kernel
theorem dS_checked_33 : decode cS_checked 33 = .ok (.athrow, 1) := by decide +kernel
theorem dS_checked_34 : decode cS_checked 34 = .ok (.aload_n 0, 1) := by decide +kernel
theorem dS_checked_35 : decode cS_checked 35 = .ok (.getfield 14, 3) := by decide +kernel
theorem dS_checked_38 : decode cS_checked 38 = .ok (.areturn, 1) := by decide +kernel
theorem dS_isTooDeep_0 : decode cS_isTooDeep 0 = .ok (.aload_n 1, 1) := by decide +kernel
theorem dS_isTooDeep_1 : decode cS_isTooDeep 1 = .ok (.getfield 44, 3) := by decide +kernel
theorem dS_isTooDeep_4 : decode cS_isTooDeep 4 = .ok (.sipush 150, 3) := by decide +kernel
theorem dS_isTooDeep_7 : decode cS_isTooDeep 7 = .ok (.if_icmp .le 18, 3) := by decide +kernel
theorem dS_isTooDeep_10 : decode cS_isTooDeep 10 = .ok (.aload_n 0, 1) := by decide +kernel
theorem dS_isTooDeep_11 : decode cS_isTooDeep 11 = .ok (.aload_n 1, 1) := by decide +kernel
theorem dS_isTooDeep_12 : decode cS_isTooDeep 12 = .ok (.invokevirtual 122, 3) := by decide +kernel
theorem dS_isTooDeep_15 : decode cS_isTooDeep 15 = .ok (.sipush 150, 3) := by decide +kernel
theorem dS_isTooDeep_18 : decode cS_isTooDeep 18 = .ok (.if_icmp .le 7, 3) := by decide +kernel
theorem dS_isTooDeep_21 : decode cS_isTooDeep 21 = .ok (.iconst 1, 1) := by decide +kernel
theorem dS_isTooDeep_22 : decode cS_isTooDeep 22 = .ok (.goto 4, 3) := by decide +kernel
theorem dS_isTooDeep_25 : decode cS_isTooDeep 25 = .ok (.iconst 0, 1) := by decide +kernel
theorem dS_isTooDeep_26 : decode cS_isTooDeep 26 = .ok (.ireturn, 1) := by decide +kernel
theorem dS_depth_0 : decode cS_depth 0 = .ok (.iconst 0, 1) := by decide +kernel
theorem dS_depth_1 : decode cS_depth 1 = .ok (.istore_n 2, 1) := by decide +kernel
theorem dS_depth_2 : decode cS_depth 2 = .ok (.aload_n 0, 1) := by decide +kernel
theorem dS_depth_3 : decode cS_depth 3 = .ok (.getfield 28, 3) := by decide +kernel
theorem dS_depth_6 : decode cS_depth 6 = .ok (.invokevirtual 56, 3) := by decide +kernel
theorem dS_depth_9 : decode cS_depth 9 = .ok (.iconst 0, 1) := by decide +kernel
theorem dS_depth_10 : decode cS_depth 10 = .ok (.istore_n 3, 1) := by decide +kernel
theorem dS_depth_11 : decode cS_depth 11 = .ok (.iload_n 3, 1) := by decide +kernel
theorem dS_depth_12 : decode cS_depth 12 = .ok (.aload_n 1, 1) := by decide +kernel
theorem dS_depth_13 : decode cS_depth 13 = .ok (.getfield 44, 3) := by decide +kernel
theorem dS_depth_16 : decode cS_depth 16 = .ok (.if_icmp .ge 41, 3) := by decide +kernel
theorem dS_depth_19 : decode cS_depth 19 = .ok (.iload_n 2, 1) := by decide +kernel
theorem dS_depth_20 : decode cS_depth 20 = .ok (.sipush 150, 3) := by decide +kernel
theorem dS_depth_23 : decode cS_depth 23 = .ok (.if_icmp .ge 34, 3) := by decide +kernel
theorem dS_depth_26 : decode cS_depth 26 = .ok (.iload_n 2, 1) := by decide +kernel
theorem dS_depth_27 : decode cS_depth 27 = .ok (.aload_n 0, 1) := by decide +kernel
theorem dS_depth_28 : decode cS_depth 28 = .ok (.getfield 28, 3) := by decide +kernel
theorem dS_depth_31 : decode cS_depth 31 = .ok (.getfield 63, 3) := by decide +kernel
theorem dS_depth_34 : decode cS_depth 34 = .ok (.invokestatic 92, 3) := by decide +kernel
theorem dS_depth_37 : decode cS_depth 37 = .ok (.istore_n 2, 1) := by decide +kernel
theorem dS_depth_38 : decode cS_depth 38 = .ok (.aload_n 0, 1) := by decide +kernel
theorem dS_depth_39 : decode cS_depth 39 = .ok (.getfield 28, 3) := by decide +kernel
theorem dS_depth_42 : decode cS_depth 42 = .ok (.aload_n 1, 1) := by decide +kernel
theorem dS_depth_43 : decode cS_depth 43 = .ok (.getfield 59, 3) := by decide +kernel
theorem dS_depth_46 : decode cS_depth 46 = .ok (.iload_n 3, 1) := by decide +kernel
theorem dS_depth_47 : decode cS_depth 47 = .ok (.iaload, 1) := by decide +kernel
theorem dS_depth_48 : decode cS_depth 48 = .ok (.invokevirtual 66, 3) := by decide +kernel
theorem dS_depth_51 : decode cS_depth 51 = .ok (.iinc 3 1, 3) := by decide +kernel
theorem dS_depth_54 : decode cS_depth 54 = .ok (.goto (-43), 3) := by decide +kernel
theorem dS_depth_57 : decode cS_depth 57 = .ok (.iload_n 2, 1) := by decide +kernel
theorem dS_depth_58 : decode cS_depth 58 = .ok (.iconst 1, 1) := by decide +kernel
theorem dS_depth_59 : decode cS_depth 59 = .ok (.iadd, 1) := by decide +kernel
theorem dS_depth_60 : decode cS_depth 60 = .ok (.ireturn, 1) := by decide +kernel
end
section
/-! calls of methods that may throw; throwing; what leaves a method -/
/-- a word of an exception's chain: a good one of the tables, or one of those that ct_Z has -/
def ct_okw (x : Cond) : Bool := (goodWord x && decide (x ∈ lw_tbl)) || (ct_ca.any (fun q => decide (x = .castable q.1 q.2)) || ct_de.any (fun y => decide (x = .declares y)))
section CTX
variable {p : Program} {l : Launch} {e : Env} {R : Room} {s : State} {m : MethodId} {args : Array Value} {below : List Frame} {meth : Method} {c : Code} {H : Heap} {locs : List Loc} {cells slots mc ms mc' ms' : Nat} {Q : State → Prop}
variable {n0 : Nat} {D : va_G} {K : Nat → ClassId} {A : Nat → Prop} {w w0 : mp_W} {cc : ByteArray} {nL pc : Nat} {c0 : Cond} {own : String} {ls : Array Slot} {rest : List Value} {post : Option Value → mp_W → Prop} {thr : String → mp_W → Prop}
theorem ct_okw_at (hE : ct_E p m c cc nL s args c0 own D K n0 w0 A) {L : List Cond} (h : L.all ct_okw = true) : ∀ x ∈ L, x.before args s = true := by
  intro x hx
  have h1 := List.all_eq_true.mp h x hx
  unfold ct_okw at h1
  rw [Bool.or_eq_true, Bool.or_eq_true, Bool.and_eq_true] at h1
  rcases h1 with ⟨h2, h3⟩ | h2 | h2
  · exact ct_w hE (List.mem_filter.mpr ⟨of_decide_eq_true h3, h2⟩)
  · obtain ⟨q, hq, he⟩ := List.any_eq_true.mp h2
    rw [of_decide_eq_true he]
    exact va_Nw.use rfl (hE.2.1.2.2.1.2.1 q hq)
  · obtain ⟨y, hy, he⟩ := List.any_eq_true.mp h2
    rw [of_decide_eq_true he]
    exact va_Nw.use rfl (hE.2.1.2.2.1.2.2.1 y hy)
theorem ct_out (hI : mp_I D cl_all (mp_A w0 s.heap.size) s.heap w H locs) (hout : ∀ x ∈ c.exceptionTable.toList, False) (hk : meth.locks = false) {E : String} {q : Addr} {ce : Cell} (hq : H[q]? = some ce) (hv : ce.vm = .none) (hcl : s.vm.findClass E = some ce.cls) (ht : thr E w) (hc : cells ≤ mc) (hs : slots ≤ ms) :
    vx_W p l e R s m args below meth c H locs cells slots (vx_MQ below (ct_Q D w0 s.heap.size post) (ct_C D w0 s.heap.size thr) args s mc ms (mp_A w0 s.heap.size)) (F0 m pc ls rest) q :=
  vx_out (fun x hx => absurd hx (hout x)) hk hq hv hcl (fun t ht' _ => ⟨w, ht, by rw [ht']; exact hI.P, fun a x h => hI.inA h, hI.2.1.F ht'⟩) hI.2.1.2.2 hc hs
theorem ct_throw (hE : ct_E p m c cc nL s args c0 own D K n0 w0 A) (hl : l.stackTraces = false) (hI : mp_I D cl_all (mp_A w0 s.heap.size) s.heap w H locs) {cls text : String} {names : List String} {ik is ic : Nat} (hcls : Bundle.fit cls = true) (hnames : ∀ n ∈ names, Bundle.fit n = true)
    (hk : Cond.classLink own ik cls ∈ gw_l) (hini : Cond.initialized cls ∈ gw_l) (hstr : (own, is, text) ∈ ct_st) (hat : (vx_atS own ic cls names).all ct_okw = true) (hgood : (Cond.classLink own ik cls :: Cond.initialized cls :: vx_atS own ic cls names).all vx_ot = true) (hls : ls.size = nL)
    (d0 : decode cc pc = .ok (.new ik, 3)) (d3 : decode cc (pc + 3) = .ok (.dup, 1)) (d4 : decode cc (pc + 4) = .ok (.ldc is, 2)) (d6 : decode cc (pc + 6) = .ok (.invokespecial ic, 3)) (d9 : decode cc (pc + 9) = .ok (.athrow, 1))
    (hout : ∀ x ∈ c.exceptionTable.toList, False) (hRf : names.length + 3 < R.frames) (hRl : (rest.map fun v => v.category).sum + (13 * (names.length + 1) + 43) ≤ R.locals) (hRc : cells + 1 ≤ R.cells) (hRs : slots + 6 ≤ R.slots) (hlk : meth.locks = false) (ht : thr cls w) (hc : cells + 1 ≤ mc) (hs : slots + 6 ≤ ms) :
    W p l e R s m args below meth c H locs cells slots (vx_MQ below (ct_Q D w0 s.heap.size post) (ct_C D w0 s.heap.size thr) args s mc ms (mp_A w0 s.heap.size)) (F0 m pc ls rest) := by
  obtain ⟨sa, hsa⟩ := hE.2.1.2.2.1.2.2.2.1 _ hstr
  have hAn : ∀ q, mp_A w0 s.heap.size q → n0 ≤ q := hE.2.1.A
  refine vx_throwS (A := mp_A w0 s.heap.size) hE.1.1.1 hE.1.1.2.1 hl hE.1.1.2.2.2.1 hcls hnames (ct_w hE hk) (ct_w hE hini) hsa (ct_okw_at hE hat) (fun x hx => List.all_eq_true.mp hgood x hx)
    (hE.2.1.2.2.1.2.2.2.2.1.narrow hAn) (hE.2.1.2.2.1.2.2.2.2.2.narrow hAn) hI.2.1 (by rw [hE.1.1.2.2.1]; exact hls) d0 d3 d4 d6 d9 (fun x hx => absurd hx (hout x)) hRf hRl hRc hRs hlk (fun t _ hz hq => ?_) hI.2.1.2.2 hc hs
  obtain ⟨⟨ws, hP, hD, hcv⟩, hS, hA⟩ := id hI
  refine ⟨w, ht, ⟨ws, hP.kept (fun k x hx => hq x.1 (hP k x hx).lt), hD.weaken (fun _ _ _ _ => trivial), hcv⟩, fun a x h => hI.inA h, Nat.le_trans hS.1 hz, fun q h1 h2 => ?_⟩
  rw [hq q (Nat.lt_of_lt_of_le h1 hS.1)]
  exact hS.2.1 q h1 h2
variable {y : MethodName} {bytes : ByteArray} {maxL index n fr lo : Nat} {ret : Option FieldType} {b : Nat} {As st : List Value} {post' : Option Value → mp_W → Prop} {thr' : String → mp_W → Prop}
theorem ct_VX (hE : ct_E p m c cc nL s args c0 own D K n0 w0 A) (hI : mp_I D cl_all A s.heap w H locs) (hM : ct_X l n0 D K y (Cond.code y bytes maxL ret) fr lo mc ms (.ref b :: As) w post' thr')
    {ci N : Nat} {fs : List Value} {C : String} {T : u_T} (he : w b = some (.inr (ci, fs))) (hc : cl_all[ci]? = some (C, T, N))
    (h1 : Cond.methodLink own index y ∈ gw_l) (h2 : Cond.instanceMethod y ∈ gw_l) (h3 : Cond.selects C y y ∈ gw_l) (h4 : Cond.initialized y.cls ∈ gw_l) (h5 : Cond.code y bytes maxL ret ∈ gw_l)
    (hd : y.cls ≠ "java/lang/invoke/MethodHandle" ∧ y.cls ≠ "java/lang/invoke/VarHandle" ∧ (parseMethodDescriptor y.desc).map (fun d => d.parameters.length) = some n) (hR : fr + 1 ≤ R.frames ∧ 8 + (maxL + 11) + lo ≤ R.locals)
    (hn : As.length = n) (hls : ls.size = nL) (hst : st = As.reverse ++ .ref b :: rest) (hW : (rest.map fun v => v.category).sum ≤ 8) (hdg : decode cc pc = .ok (.invokevirtual index, 3)) (hf : cells + mc ≤ R.cells ∧ slots + ms ≤ R.slots)
    (kk : ∀ (v : Option Value) (w' : mp_W) (H1 : Heap) (locs1 : List Loc), post' v w' → mp_I D cl_all A s.heap w' H1 locs1 → W p l e R s m args below meth c H1 locs1 (cells + mc) (slots + ms) Q (F0 m (pc + 3) ls (v.toList ++ rest)))
    (kt : ∀ (E : String) (q : Addr) (ce : Cell) (w' : mp_W) (H1 : Heap) (locs1 : List Loc), thr' E w' → mp_I D cl_all A s.heap w' H1 locs1 → H1[q]? = some ce → ce.vm = .none → s.vm.findClass E = some ce.cls → vx_W p l e R s m args below meth c H1 locs1 (cells + mc) (slots + ms) Q (F0 m pc ls rest) q) :
    W p l e R s m args below meth c H locs cells slots Q (F0 m pc ls st) := by
  have run := vx_runV (g := F0 m pc ls st) (rest := rest) (locs := locs) (cells := cells) (slots := slots) (below := below) (meth := meth) (e := e) hE.1.1 (hM H.size) ⟨ct_cb hE h1 h4 h5 hd hR, ct_w hE h2, ct_w hE h3⟩ ⟨ct_blind, ct_recv hE hI he hc, fun U hU hW => ⟨rfl, by rw [hU], ct_at hE hI hU hW⟩⟩ rfl hn hls hst (lv_room hW) hdg hf
  intro T hT X
  rcases run T hT X with ⟨v, st0, t, T', L, h0, X', hL, e1, e2, ⟨v', w', ho, hp, hP, hdm, hF⟩, hg⟩ | ⟨q, st0, t, T', L, E, ce, h0, X', hL, e1, e2, ⟨w', hp, hP, hdm, hF⟩, hq, hv, hcl, hg⟩
  · cases ho
    obtain ⟨tt, a1, b1⟩ := kk v w' t.heap (locs ++ L) hp (ct_on hI h0 hP hdm hF hL) T' e1 X'
    exact ⟨tt, hg _ a1, b1⟩
  · obtain ⟨tt, a1, b1⟩ := kt E q ce w' t.heap (locs ++ L) hp (ct_on hI h0 hP hdm hF hL) hq hv hcl T' e1 X'
    exact ⟨tt, hg.trans a1, b1⟩
theorem ct_StX (hE : ct_E p m c cc nL s args c0 own D K n0 w0 A) (hI : mp_I D cl_all A s.heap w H locs) (hM : ct_X l n0 D K y (Cond.code y bytes maxL ret) fr lo mc ms As w post' thr')
    (h1 : Cond.methodLink own index y ∈ gw_l) (h2 : Cond.static y ∈ gw_l) (h4 : Cond.initialized y.cls ∈ gw_l) (h5 : Cond.code y bytes maxL ret ∈ gw_l)
    (hd : y.cls ≠ "java/lang/invoke/MethodHandle" ∧ y.cls ≠ "java/lang/invoke/VarHandle" ∧ (parseMethodDescriptor y.desc).map (fun d => d.parameters.length) = some n) (hR : fr + 1 ≤ R.frames ∧ 8 + (maxL + 11) + lo ≤ R.locals)
    (hn : As.length = n) (hls : ls.size = nL) (hst : st = As.reverse ++ rest) (hW : (rest.map fun v => v.category).sum ≤ 8) (hdg : decode cc pc = .ok (.invokestatic index, 3)) (hf : cells + mc ≤ R.cells ∧ slots + ms ≤ R.slots)
    (kk : ∀ (v : Option Value) (w' : mp_W) (H1 : Heap) (locs1 : List Loc), post' v w' → mp_I D cl_all A s.heap w' H1 locs1 → W p l e R s m args below meth c H1 locs1 (cells + mc) (slots + ms) Q (F0 m (pc + 3) ls (v.toList ++ rest)))
    (kt : ∀ (E : String) (q : Addr) (ce : Cell) (w' : mp_W) (H1 : Heap) (locs1 : List Loc), thr' E w' → mp_I D cl_all A s.heap w' H1 locs1 → H1[q]? = some ce → ce.vm = .none → s.vm.findClass E = some ce.cls → vx_W p l e R s m args below meth c H1 locs1 (cells + mc) (slots + ms) Q (F0 m pc ls rest) q) :
    W p l e R s m args below meth c H locs cells slots Q (F0 m pc ls st) := by
  have run := vx_runS (g := F0 m pc ls st) (rest := rest) (locs := locs) (cells := cells) (slots := slots) (below := below) (meth := meth) (e := e) hE.1.1 (hM H.size) ⟨ct_cb hE h1 h4 h5 hd hR, ct_w hE h2⟩ ⟨ct_blind, fun U hU hW => ⟨rfl, by rw [hU], ct_at hE hI hU hW⟩⟩ rfl hn hls hst (lv_room hW) hdg hf
  intro T hT X
  rcases run T hT X with ⟨v, st0, t, T', L, h0, X', hL, e1, e2, ⟨v', w', ho, hp, hP, hdm, hF⟩, hg⟩ | ⟨q, st0, t, T', L, E, ce, h0, X', hL, e1, e2, ⟨w', hp, hP, hdm, hF⟩, hq, hv, hcl, hg⟩
  · cases ho
    obtain ⟨tt, a1, b1⟩ := kk v w' t.heap (locs ++ L) hp (ct_on hI h0 hP hdm hF hL) T' e1 X'
    exact ⟨tt, hg _ a1, b1⟩
  · obtain ⟨tt, a1, b1⟩ := kt E q ce w' t.heap (locs ++ L) hp (ct_on hI h0 hP hdm hF hL) hq hv hcl T' e1 X'
    exact ⟨tt, hg.trans a1, b1⟩
end CTX
end
section
/-! Workshop: depth, isTooDeep, checked. The class's cells by their labels: f 2 the Workshop, f 5 .. f 10 its Walks and their rows, f (13 + 2 i) the Term i, f (14 + 2 i) its row -/
theorem lp_4 {α β γ δ : Type} {G : α → β → γ → δ → Prop} (I : Nat → α → β → γ → δ → Prop) (hs : ∀ k x y z u, I k x y z u → (∀ k' x' y' z' u', k' < k → I k' x' y' z' u' → G x' y' z' u') → G x y z u) (k : Nat) (x : α) (y : β) (z : γ) (u : δ) (h : I k x y z u) : G x y z u := by
  induction k using Nat.strongRecOn generalizing x y z u with
  | ind k ih => exact hs k x y z u h (fun k' x' y' z' u' hk hy => ih k' hk x' y' z' u' hy)
def ph_i (f : Nat → Nat) : Prop := ∀ i j, i < 49 → j < 49 → f i = f j → i = j
theorem ph_i.ne {f : Nat → Nat} (h : ph_i f) {i j : Nat} (hi : i < 49) (hj : j < 49) (hij : i ≠ j) : f i ≠ f j := fun e => hij (h i j hi hj e)
theorem ph_i.nin {f : Nat → Nat} (h : ph_i f) {a : Nat} (ha : a < 49) (ls : List Nat) (hl : ∀ b ∈ ls, b < 49 ∧ a ≠ b) : f a ∉ ls.map f := by
  intro hm
  obtain ⟨b, hb, e⟩ := List.mem_map.mp hm
  exact (hl b hb).2 (h a b ha (hl b hb).1 e.symm)
theorem pt_T.off {K : Nat → ClassId} {w w' : mp_W} {t ar cap : Nat} {L : List Int} {S : List Nat} (h : pt_T K w t ar cap L) (ho : mp_off S w w') (h1 : t ∉ S) (h2 : ar ∉ S) : pt_T K w' t ar cap L := by
  obtain ⟨f, a1, a2, a3⟩ := h
  exact ⟨f, by rw [ho t h1]; exact a1, by rw [ho ar h2]; exact a2, a3⟩
theorem pt_R.off {K : Nat → ClassId} {w w' : mp_W} {t ar cap : Nat} {L : List Int} {S : List Nat} (h : pt_R K w t ar cap L) (ho : mp_off S w w') (h1 : t ∉ S) (h2 : ar ∉ S) : pt_R K w' t ar cap L := ⟨h.1.off ho h1 h2, h.2⟩
theorem pt_W.off {K : Nat → ClassId} {w w' : mp_W} {k ka fa ff : Nat} {u : List Nat × Nat} {S : List Nat} (h : pt_W K w k ka fa ff u) (ho : mp_off S w w') (h1 : k ∉ S) (h2 : ka ∉ S) : pt_W K w' k ka fa ff u := by
  obtain ⟨f, a1, a2, a3⟩ := h
  exact ⟨f, by rw [ho k h1]; exact a1, by rw [ho ka h2]; exact a2, a3⟩
def pt_ub (u : List Nat × Nat) (i : Nat) : Prop := u.2 ≤ i ∧ ∀ y ∈ u.1, y ≤ i
theorem pt_ub.wk {u : List Nat × Nat} {i fa ff : Nat} (h : pt_ub u i) (hfa : fa ≤ 1) (hff : ff ≤ 1) (x : Int) : pt_ub (tm_wk fa ff u x) (i + 1) := by
  obtain ⟨h1, h2⟩ := h
  obtain ⟨s, c⟩ := u
  have h1 : c ≤ i := h1
  unfold tm_wk
  split
  · refine ⟨by show c + fa ≤ i + 1; omega, fun y hy => ?_⟩
    have hy : y ∈ (if s.length < 150 then (c + fa) :: s else s) := hy
    split at hy
    · rcases List.mem_cons.mp hy with e | e
      · omega
      · have := h2 y e; omega
    · have := h2 y hy; omega
  · split
    · exact ⟨by show c + ff ≤ i + 1; omega, fun y hy => by have := h2 y hy; omega⟩
    · cases s with
      | nil => exact ⟨Nat.zero_le _, fun y hy => by cases hy⟩
      | cons a s => exact ⟨by have := h2 a (List.mem_cons_self ..); show a ≤ i + 1; omega, fun y hy => by have := h2 y (List.mem_cons_of_mem _ hy); omega⟩
theorem pt_ub0 : pt_ub ([], 0) 0 := ⟨Nat.le_refl _, fun _ h => by cases h⟩
abbrev ob_S (f : Nat → Nat) (mi : Nat) : va_E := .inr (3, [.ref (f (13 + 2 * mi)), .ref (f (13 + 2 * (33 - mi))), .ref (f 5), .ref (f 7), .ref (f 9)])
section KS1
variable {l : Launch} {n0 : Nat} {D : va_G} {K : Nat → ClassId} {w : mp_W} {f : Nat → Nat} {mi : Nat}
set_option maxRecDepth 100000 in
theorem kS_depth {i cap : Nat} {u : List Nat × Nat} {L : List Int} (hf : ph_i f) (hS : w (f 2) = some (ob_S f mi)) (hi : i < 18) (hp : pt_R K w (f (13 + 2 * i)) (f (14 + 2 * i)) cap L) (hw : pt_W K w (f 5) (f 6) 1 1 u) : ct_M l n0 D K yS_depth (Cond.code yS_depth cS_depth 4 (some .int)) 1 40 0 0 [.ref (f 2), .ref (f (13 + 2 * i))] w (fun v w' => v = some (.int (nI (tm_dd L ([], 0) 0 + 1))) ∧ mp_off [f 5, f 6] w w' ∧ ∃ u', pt_W K w' (f 5) (f 6) 1 1 u') := by
  have hlen : L.length ≤ 2000 := Nat.le_trans hp.2.1 hp.2.2.1
  have n2 : f 2 ∉ [f 5, f 6] := hf.nin (by decide) [5, 6] (by decide)
  have nt : f (13 + 2 * i) ∉ [f 5, f 6] := hf.nin (by omega) [5, 6] (by intro b hb; simp at hb; omega)
  have na : f (14 + 2 * i) ∉ [f 5, f 6] := hf.nin (by omega) [5, 6] (by intro b hb; simp at hb; omega)
  refine ct_go (own := nm_S) (by decide) rfl (Nat.le_of_ble_eq_true rfl) ?_
  intro p e s m below meth c ls hE hI hr hk hn hl
  have hx := hE.1.1.1
  have hb := hE.1.1.2.1
  have hl : lv_has ls 4 [(0, .ref (f 2)), (1, .ref (f (13 + 2 * i)))] := hl
  refine lv_iconst (v := 0) hx hb dS_depth_0 (by decide) ?_
  refine lv_istore_n hx hb dS_depth_1 rfl hl (by decide) rfl (fun ls hl => ?_)
  refine lv_aload_n hx hb dS_depth_2 rfl (lv_at hl 1 rfl) ?_
  refine mp_get hE.1 hI hS rfl gx_S 2 (by decide) (List.mem_cons_of_mem _ gf_S28) rfl dS_depth_3 ?_
  obtain ⟨g, hW1, hW2⟩ := id hw
  refine ct_V (n := 0) hE hI (kW_start hw) hW1 rfl gm_S56 gi_W_start gs_W_W_start gz_W gc_W_start (by decide +kernel) ⟨Nat.le_of_ble_eq_true rfl, Nat.le_of_ble_eq_true rfl⟩ rfl hl.1 rfl (Nat.le_of_ble_eq_true rfl) dS_depth_6 ⟨Nat.le_of_ble_eq_true rfl, Nat.le_of_ble_eq_true rfl⟩ (fun v w1 H locs hq hI => ?_)
  obtain ⟨rfl, ho, hw1⟩ := hq
  show W _ _ _ _ _ _ _ _ _ _ _ _ _ _ _ (F0 _ _ _ [])
  refine lv_iconst (v := 0) hx hb dS_depth_9 (by decide) ?_
  refine lv_istore_n hx hb dS_depth_10 rfl hl (by decide) rfl (fun ls hl => ?_)
  refine lp_4 (G := fun ls w2 H locs => W p l e _ s m _ below meth c H locs 0 0 _ (F0 m 11 ls [])) (I := fun k ls w2 H locs => ∃ j d u, k = L.length - j ∧ j ≤ L.length ∧ d ≤ j ∧ pt_ub u j ∧ tm_dd (L.drop j) u d = tm_dd L ([], 0) 0 ∧ lv_has ls 4 [(3, .int (nI j)), (2, .int (nI d)), (0, .ref (f 2)), (1, .ref (f (13 + 2 * i)))] ∧ mp_off [f 5, f 6] w w2 ∧ pt_W K w2 (f 5) (f 6) 1 1 u ∧ mp_I D cl_all (mp_A w s.heap.size) s.heap w2 H locs) ?_ (L.length - 0) ls w1 H locs ⟨0, 0, ([], 0), rfl, by omega, by omega, pt_ub0, rfl, hl, ho, hw1, hI⟩
  clear hl hI ho hw1 hW1 hW2
  intro k ls w2 H locs hk0 ih
  obtain ⟨j, d, u, rfl, hj, hd, hub, heq, hl, ho, hw2, hI⟩ := hk0
  have fin : (L.length ≤ j ∨ 150 ≤ d) → ∀ ls, lv_has ls 4 [(3, .int (nI j)), (2, .int (nI d)), (0, .ref (f 2)), (1, .ref (f (13 + 2 * i)))] → W p l e { frames := 1, cells := 0, slots := 0, locals := 40 } s m ([Value.ref (f 2), .ref (f (13 + 2 * i))] : List Value).toArray below meth c H locs 0 0 (MQ below (ct_Q D w s.heap.size (fun v w' => v = some (.int (nI (tm_dd L ([], 0) 0 + 1))) ∧ mp_off [f 5, f 6] w w' ∧ ∃ u', pt_W K w' (f 5) (f 6) 1 1 u')) ([Value.ref (f 2), .ref (f (13 + 2 * i))] : List Value).toArray s 0 0 (mp_A w s.heap.size)) (F0 m 57 ls []) := by
    intro hq ls hl
    have h0 : tm_dd (L.drop j) u d = d := by
      rcases hq with hq | hq
      · rw [List.drop_eq_nil_of_le hq]; rfl
      · cases L.drop j with
        | nil => rfl
        | cons x M => exact if_neg (by omega)
    refine lv_iload_n hx hb dS_depth_57 rfl (lv_at hl 1 rfl) ?_
    refine lv_iconst (v := 1) hx hb dS_depth_58 (by decide) ?_
    refine lv_iadd hx hb dS_depth_59 ?_
    rw [nI_1]
    exact ct_iret hE hI hr hk ⟨by rw [← heq, h0], ho, u, hw2⟩ (by decide) (by decide) dS_depth_60
  obtain ⟨g, kT, kA, kf, kc, kc2, kx⟩ := (hp.off ho nt na).out
  have kS : w2 (f 2) = some (ob_S f mi) := by rw [ho _ n2]; exact hS
  obtain ⟨g2, kW1, kW2, kW3⟩ := id hw2
  refine lv_iload_n hx hb dS_depth_11 rfl (lv_at hl 0 rfl) ?_
  refine lv_aload_n hx hb dS_depth_12 rfl (lv_at hl 3 rfl) ?_
  refine mp_getN hE.1 hI kT rfl gx_T 1 (by decide) (ct_nw hE (q := ("BindingBench$Workshop", 44, "BindingBench$Term", "size", "I")) (by decide +kernel)) rfl dS_depth_13 ?_
  refine lv_icmp_ge (tgt := 57) hx hb dS_depth_16 (by decide) (fun hq => ?_) (fun hq => ?_)
  · have hq : L.length ≤ j := (nI_leI (by omega) (by omega)).mp hq
    exact fin (Or.inl hq) ls hl
  · have hq : j < L.length := Nat.lt_of_not_le (fun h => hq (nI_le h (by omega)))
    refine lv_iload_n hx hb dS_depth_19 rfl (lv_at hl 1 rfl) ?_
    refine lv_sipush (v := nI 150) hx hb dS_depth_20 (by decide) ?_
    refine lv_icmp_ge (tgt := 57) hx hb dS_depth_23 (by decide) (fun hq2 => ?_) (fun hq2 => ?_)
    · have hq2 : 150 ≤ d := (nI_leI (by omega) (by omega)).mp hq2
      exact fin (Or.inr hq2) ls hl
    · have hq2 : d < 150 := Nat.lt_of_not_le (fun h => hq2 (nI_le h (by omega)))
      obtain ⟨x, e1, m1⟩ := pt_at hq
      have hu2 := hub.1
      refine lv_iload_n hx hb dS_depth_26 rfl (lv_at hl 1 rfl) ?_
      refine lv_aload_n hx hb dS_depth_27 rfl (lv_at hl 2 rfl) ?_
      refine mp_get hE.1 hI kS rfl gx_S 2 (by decide) (List.mem_cons_of_mem _ gf_S28) rfl dS_depth_28 ?_
      refine mp_getN hE.1 hI kW1 rfl gx_W 4 (by decide) (ct_nw hE (q := ("BindingBench$Workshop", 63, "BindingBench$Walk", "count", "I")) (by decide +kernel)) rfl dS_depth_31 ?_
      refine va_mmax hx hb (by rw [hE.1.1.2.2.1]; exact hl.1.symm) hE.1.1.2.2.2.1 (ct_w hE gm_S92) (ct_w hE gt_Jm_max) (ct_w hE gz_Jm) (ct_w hE gc_Jm_max) (Nat.le_of_ble_eq_true rfl) (Nat.le_of_ble_eq_true rfl) (Nat.zero_le _) (Nat.zero_le _) dS_depth_34 ?_
      rw [ci_max (by omega) (by omega)]
      refine lv_istore_n hx hb dS_depth_37 rfl hl (by decide) rfl (fun ls hl => ?_)
      refine lv_aload_n hx hb dS_depth_38 rfl (lv_at hl 2 rfl) ?_
      refine mp_get hE.1 hI kS rfl gx_S 2 (by decide) (List.mem_cons_of_mem _ gf_S28) rfl dS_depth_39 ?_
      refine lv_aload_n hx hb dS_depth_42 rfl (lv_at hl 3 rfl) ?_
      refine mp_getN hE.1 hI kT rfl gx_T 0 (by decide) (ct_nw hE (q := ("BindingBench$Workshop", 59, "BindingBench$Term", "cells", "[I")) (by decide +kernel)) rfl dS_depth_43 ?_
      refine lv_iload_n hx hb dS_depth_46 rfl (lv_at hl 1 rfl) ?_
      refine mp_ild hE.1 hI kA 0 rfl (vp_in_nI (by omega) (by omega)) dS_depth_47 ?_
      rw [nI_clamp (by omega), kf j x e1]
      refine ct_V (n := 1) hE hI (kW_pass (x := x) hw2 (kx x m1) (by omega)) kW1 rfl gm_S66 gi_W_pass gs_W_W_pass gz_W gc_W_pass (by decide +kernel) ⟨Nat.le_of_ble_eq_true rfl, Nat.le_of_ble_eq_true rfl⟩ rfl hl.1 rfl (Nat.le_of_ble_eq_true rfl) dS_depth_48 ⟨Nat.le_of_ble_eq_true rfl, Nat.le_of_ble_eq_true rfl⟩ (fun v w1 H locs hq hI => ?_)
      obtain ⟨rfl, ho2, hw3⟩ := hq
      show W _ _ _ _ _ _ _ _ _ _ _ _ _ _ _ (F0 _ _ _ [])
      refine lv_iinc (k := 1) (v := nI (j + 1)) hx hb dS_depth_51 hl rfl (nI_1 j) (by decide) rfl (fun ls hl => ?_)
      refine lv_goto (tgt := 11) hx hb dS_depth_54 (by decide) ?_
      refine ih (L.length - (j + 1)) ls w1 H locs (by omega) ⟨j + 1, max d u.2, tm_wk 1 1 u x, rfl, by omega, by omega, hub.wk (by omega) (by omega) x, ?_, hl, ho.tr ho2, hw3, hI⟩
      rw [← heq, pt_drop e1, tm_dd_cons _ _ _ hq2]
end KS1
end
section
/-! the words of the exceptions that are thrown -/
theorem oa_B62_66 : (vx_atS "BindingBench" 66 "java/lang/IllegalArgumentException" ["java/lang/RuntimeException", "java/lang/Exception"]).all ct_okw = true := by decide +kernel
theorem og_B62_66 : (Cond.classLink "BindingBench" 62 "java/lang/IllegalArgumentException" :: Cond.initialized "java/lang/IllegalArgumentException" :: vx_atS "BindingBench" 66 "java/lang/IllegalArgumentException" ["java/lang/RuntimeException", "java/lang/Exception"]).all vx_ot = true := by decide +kernel
theorem oa_B124_128 : (vx_atS "BindingBench" 128 "java/lang/IndexOutOfBoundsException" ["java/lang/RuntimeException", "java/lang/Exception"]).all ct_okw = true := by decide +kernel
theorem og_B124_128 : (Cond.classLink "BindingBench" 124 "java/lang/IndexOutOfBoundsException" :: Cond.initialized "java/lang/IndexOutOfBoundsException" :: vx_atS "BindingBench" 128 "java/lang/IndexOutOfBoundsException" ["java/lang/RuntimeException", "java/lang/Exception"]).all vx_ot = true := by decide +kernel
theorem og_B133_137 : (Cond.classLink "BindingBench" 133 "java/util/NoSuchElementException" :: Cond.initialized "java/util/NoSuchElementException" :: vx_atS "BindingBench" 137 "java/util/NoSuchElementException" ["java/lang/RuntimeException", "java/lang/Exception"]).all vx_ot = true := by decide +kernel
theorem oa_S98_102 : (vx_atS "BindingBench$Workshop" 102 "java/lang/ArithmeticException" ["java/lang/RuntimeException", "java/lang/Exception"]).all ct_okw = true := by decide +kernel
theorem og_S98_102 : (Cond.classLink "BindingBench$Workshop" 98 "java/lang/ArithmeticException" :: Cond.initialized "java/lang/ArithmeticException" :: vx_atS "BindingBench$Workshop" 102 "java/lang/ArithmeticException" ["java/lang/RuntimeException", "java/lang/Exception"]).all vx_ot = true := by decide +kernel
theorem oa_S117_121 : (vx_atS "BindingBench$Workshop" 121 "java/lang/IllegalStateException" ["java/lang/RuntimeException", "java/lang/Exception"]).all ct_okw = true := by decide +kernel
theorem og_S117_121 : (Cond.classLink "BindingBench$Workshop" 117 "java/lang/IllegalStateException" :: Cond.initialized "java/lang/IllegalStateException" :: vx_atS "BindingBench$Workshop" 121 "java/lang/IllegalStateException" ["java/lang/RuntimeException", "java/lang/Exception"]).all vx_ot = true := by decide +kernel
end
section
/-! Workshop: isTooDeep, checked, join -/
def pt_bad (M : List Int) : Prop := 2000 < M.length ∨ (150 < M.length ∧ 150 < tm_dd M ([], 0) 0 + 1)
theorem pt_dd_le {L : List Int} (hL : L.length ≤ 2000) : tm_dd L ([], 0) 0 ≤ 150 + 2000 := by
  have key : ∀ (L : List Int) (u : List Nat × Nat) (i d : Nat), pt_ub u i → d ≤ 150 ∨ d ≤ i → tm_dd L u d ≤ 150 + (i + L.length) := by
    intro L
    induction L with
    | nil => intro u i d _ hd; show d ≤ _; omega
    | cons x L ih =>
      intro u i d hu hd
      show (if d < 150 then tm_dd L (tm_wk 1 1 u x) (max d u.2) else d) ≤ _
      split
      · have h1 := hu.1
        have := ih (tm_wk 1 1 u x) (i + 1) (max d u.2) (hu.wk (by omega) (by omega) x) (by omega)
        rw [List.length_cons]
        omega
      · rw [List.length_cons]; omega
  have := key L ([], 0) 0 0 pt_ub0 (by omega)
  omega
section KS2
variable {l : Launch} {n0 : Nat} {D : va_G} {K : Nat → ClassId} {w : mp_W} {f : Nat → Nat} {mi : Nat}
set_option maxRecDepth 100000 in
theorem kS_isTooDeep {i cap : Nat} {u : List Nat × Nat} {L : List Int} (hf : ph_i f) (hS : w (f 2) = some (ob_S f mi)) (hi : i < 18) (hp : pt_R K w (f (13 + 2 * i)) (f (14 + 2 * i)) cap L) (hw : pt_W K w (f 5) (f 6) 1 1 u) : ct_M l n0 D K yS_isTooDeep (Cond.code yS_isTooDeep cS_isTooDeep 2 (some .boolean)) 2 80 0 0 [.ref (f 2), .ref (f (13 + 2 * i))] w (fun v w' => (∃ r : Int32, v = some (.int r) ∧ ((r = 1 ∧ 150 < L.length ∧ 150 < tm_dd L ([], 0) 0 + 1) ∨ (r = 0 ∧ ¬ (150 < L.length ∧ 150 < tm_dd L ([], 0) 0 + 1)))) ∧ mp_off [f 5, f 6] w w' ∧ ∃ u', pt_W K w' (f 5) (f 6) 1 1 u') := by
  obtain ⟨g, hT, hA, hg, hc, hc2, hx2⟩ := hp.out
  have hdd : tm_dd L ([], 0) 0 ≤ 150 + 2000 := pt_dd_le (by omega)
  refine ct_go (own := nm_S) (by decide) rfl (Nat.le_of_ble_eq_true rfl) ?_
  intro p e s m below meth c ls hE hI hr hk hn hl
  have hx := hE.1.1.1
  have hb := hE.1.1.2.1
  have hl : lv_has ls 2 [(0, .ref (f 2)), (1, .ref (f (13 + 2 * i)))] := hl
  refine lv_aload_n hx hb dS_isTooDeep_0 rfl (lv_at hl 1 rfl) ?_
  refine mp_getN hE.1 hI hT rfl gx_T 1 (by decide) (ct_nw hE (q := ("BindingBench$Workshop", 44, "BindingBench$Term", "size", "I")) (by decide +kernel)) rfl dS_isTooDeep_1 ?_
  refine lv_sipush (v := nI 150) hx hb dS_isTooDeep_4 (by decide) ?_
  refine lv_icmp_le (tgt := 25) hx hb dS_isTooDeep_7 (by decide) (fun hq => ?_) (fun hq => ?_)
  · have hq : L.length ≤ 150 := (nI_leI (by omega) (by omega)).mp hq
    refine lv_iconst (v := 0) hx hb dS_isTooDeep_25 (by decide) ?_
    exact ct_zret hE hI hr hk (Or.inl rfl) ⟨⟨0, rfl, Or.inr ⟨rfl, fun h => by omega⟩⟩, mp_off.rf _ _, u, hw⟩ (by decide) (by decide) dS_isTooDeep_26
  · have hq : 150 < L.length := Nat.lt_of_not_le (fun h => hq (nI_le h (by omega)))
    refine lv_aload_n hx hb dS_isTooDeep_10 rfl (lv_at hl 0 rfl) ?_
    refine lv_aload_n hx hb dS_isTooDeep_11 rfl (lv_at hl 1 rfl) ?_
    refine ct_V (n := 1) hE hI (kS_depth hf hS hi hp hw) hS rfl gm_S122 gi_S_depth gs_S_S_depth gz_S gc_S_depth (by decide +kernel) ⟨Nat.le_of_ble_eq_true rfl, Nat.le_of_ble_eq_true rfl⟩ rfl hl.1 rfl (Nat.le_of_ble_eq_true rfl) dS_isTooDeep_12 ⟨Nat.le_of_ble_eq_true rfl, Nat.le_of_ble_eq_true rfl⟩ (fun v w1 H locs hq hI => ?_)
    obtain ⟨rfl, ho, u', hw1⟩ := hq
    show W _ _ _ _ _ _ _ _ _ _ _ _ _ _ _ (F0 _ _ _ [.int _])
    refine lv_sipush (v := nI 150) hx hb dS_isTooDeep_15 (by decide) ?_
    refine lv_icmp_le (tgt := 25) hx hb dS_isTooDeep_18 (by decide) (fun hz => ?_) (fun hz => ?_)
    · have hz : tm_dd L ([], 0) 0 + 1 ≤ 150 := (nI_leI (by omega) (by omega)).mp hz
      refine lv_iconst (v := 0) hx hb dS_isTooDeep_25 (by decide) ?_
      exact ct_zret hE hI hr hk (Or.inl rfl) ⟨⟨0, rfl, Or.inr ⟨rfl, fun h => by omega⟩⟩, ho, u', hw1⟩ (by decide) (by decide) dS_isTooDeep_26
    · have hz : 150 < tm_dd L ([], 0) 0 + 1 := Nat.lt_of_not_le (fun h => hz (nI_le h (by omega)))
      refine lv_iconst (v := 1) hx hb dS_isTooDeep_21 (by decide) ?_
      refine lv_goto (tgt := 26) hx hb dS_isTooDeep_22 (by decide) ?_
      exact ct_zret hE hI hr hk (Or.inr rfl) ⟨⟨1, rfl, Or.inl ⟨rfl, by assumption, hz⟩⟩, ho, u', hw1⟩ (by decide) (by decide) dS_isTooDeep_26
set_option maxRecDepth 100000 in
theorem kS_checked (hl0 : l.stackTraces = false) {u : List Nat × Nat} {M : List Int} (hf : ph_i f) (hm : mi = 16 ∨ mi = 17) (hS : w (f 2) = some (ob_S f mi)) (hp : pt_T K w (f (13 + 2 * mi)) (f (14 + 2 * mi)) 2000 M) (hML : M.length < 1073741824) (hMb : M.length ≤ 2000 → ∀ x ∈ M, -2 ≤ x ∧ x ≤ 1000000) (hw : pt_W K w (f 5) (f 6) 1 1 u) :
    ct_X l n0 D K yS_checked (Cond.code yS_checked cS_checked 1 (some (.object "BindingBench$Term"))) 6 140 1 6 [.ref (f 2)] w (fun v w' => v = some (.ref (f (13 + 2 * mi))) ∧ ¬ pt_bad M ∧ mp_off [f 5, f 6] w w' ∧ ∃ u', pt_W K w' (f 5) (f 6) 1 1 u') (fun E w' => E = "java/lang/IllegalStateException" ∧ pt_bad M ∧ mp_off [f 5, f 6] w w' ∧ ∃ u', pt_W K w' (f 5) (f 6) 1 1 u') := by
  obtain ⟨g, hT, hA, hg⟩ := id hp
  refine ct_goX (own := nm_S) (by decide) rfl (Nat.le_of_ble_eq_true rfl) ?_
  intro p e s m below meth c ls hE hI hr hk hout hl
  have hx := hE.1.1.1
  have hb := hE.1.1.2.1
  have hl : lv_has ls 1 [(0, .ref (f 2))] := hl
  refine lv_aload_n hx hb dS_checked_0 rfl (lv_at hl 0 rfl) ?_
  refine mp_get hE.1 hI hS rfl gx_S 0 (by decide) (List.mem_cons_of_mem _ gf_S14) rfl dS_checked_1 ?_
  refine mp_getN hE.1 hI hT rfl gx_T 1 (by decide) (ct_nw hE (q := ("BindingBench$Workshop", 44, "BindingBench$Term", "size", "I")) (by decide +kernel)) rfl dS_checked_4 ?_
  refine lv_sipush (v := nI 2000) hx hb dS_checked_7 (by decide) ?_
  refine lv_icmp_gt (tgt := 24) hx hb dS_checked_10 (by decide) (fun hq => ?_) (fun hq => ?_)
  · have hq : 2000 < M.length := (nI_ltI (by omega) (by omega)).mp hq
    exact ct_throw hE hl0 hI (cls := "java/lang/IllegalStateException") (text := "beyond the greatest SIZE or DEPTH") (names := ["java/lang/RuntimeException", "java/lang/Exception"]) (ic := 121) (by decide +kernel) (by decide +kernel) gk_S117 gz_Ji (by decide +kernel) oa_S117_121 og_S117_121 hl.1 dS_checked_24 dS_checked_27 dS_checked_28 dS_checked_30 dS_checked_33 hout (Nat.le_of_ble_eq_true rfl) (Nat.le_of_ble_eq_true rfl) (Nat.le_of_ble_eq_true rfl) (Nat.le_of_ble_eq_true rfl) hk ⟨rfl, Or.inl hq, mp_off.rf _ _, u, hw⟩ (Nat.le_of_ble_eq_true rfl) (Nat.le_of_ble_eq_true rfl)
  · have hq : M.length ≤ 2000 := (nI_leI (by omega) (by omega)).mp (Int32.not_lt.mp hq)
    have hpR : pt_R K w (f (13 + 2 * mi)) (f (14 + 2 * mi)) 2000 M := ⟨hp, hq, by omega, hMb hq⟩
    refine lv_aload_n hx hb dS_checked_13 rfl (lv_at hl 0 rfl) ?_
    refine lv_aload_n hx hb dS_checked_14 rfl (lv_at hl 0 rfl) ?_
    refine mp_get hE.1 hI hS rfl gx_S 0 (by decide) (List.mem_cons_of_mem _ gf_S14) rfl dS_checked_15 ?_
    refine ct_V (n := 1) hE hI (kS_isTooDeep hf hS (by omega) hpR hw) hS rfl gm_S113 gi_S_isTooDeep gs_S_S_isTooDeep gz_S gc_S_isTooDeep (by decide +kernel) ⟨Nat.le_of_ble_eq_true rfl, Nat.le_of_ble_eq_true rfl⟩ rfl hl.1 rfl (Nat.le_of_ble_eq_true rfl) dS_checked_18 ⟨Nat.le_of_ble_eq_true rfl, Nat.le_of_ble_eq_true rfl⟩ (fun v w1 H locs hq hI => ?_)
    obtain ⟨⟨r, rfl, hrr⟩, ho, u', hw1⟩ := hq
    show W _ _ _ _ _ _ _ _ _ _ _ _ _ _ _ (F0 _ _ _ [.int _])
    have hS1 : w1 (f 2) = some (ob_S f mi) := by rw [ho _ (hf.nin (by decide) [5, 6] (by decide))]; exact hS
    refine lv_if_eq (tgt := 34) hx hb dS_checked_21 (by decide) (fun hz => ?_) (fun hz => ?_)
    · rcases hrr with ⟨e, -⟩ | ⟨-, hn⟩
      · rw [e] at hz; exact absurd hz (by decide)
      refine lv_aload_n hx hb dS_checked_34 rfl (lv_at hl 0 rfl) ?_
      refine mp_get hE.1 hI hS1 rfl gx_S 0 (by decide) (List.mem_cons_of_mem _ gf_S14) rfl dS_checked_35 ?_
      exact vx_ret (ct_aret hE hI hr (Or.inl ⟨_, rfl⟩) hk ⟨rfl, fun h => by rcases h with h | h; omega; exact hn h, ho, u', hw1⟩ (by decide) (by decide) dS_checked_38)
    · rcases hrr with ⟨-, hy⟩ | ⟨e, -⟩
      · exact ct_throw hE hl0 hI (cls := "java/lang/IllegalStateException") (text := "beyond the greatest SIZE or DEPTH") (names := ["java/lang/RuntimeException", "java/lang/Exception"]) (ic := 121) (by decide +kernel) (by decide +kernel) gk_S117 gz_Ji (by decide +kernel) oa_S117_121 og_S117_121 hl.1 dS_checked_24 dS_checked_27 dS_checked_28 dS_checked_30 dS_checked_33 hout (Nat.le_of_ble_eq_true rfl) (Nat.le_of_ble_eq_true rfl) (Nat.le_of_ble_eq_true rfl) (Nat.le_of_ble_eq_true rfl) hk ⟨rfl, Or.inr hy, ho, u', hw1⟩ (Nat.le_of_ble_eq_true rfl) (Nat.le_of_ble_eq_true rfl)
      · exact absurd e hz
/-- the Workshop: its Walks, and the row that is made -/
def pt_S (K : Nat → ClassId) (w : mp_W) (f : Nat → Nat) (mi : Nat) (M : List Int) : Prop := w (f 2) = some (ob_S f mi) ∧ pt_T K w (f (13 + 2 * mi)) (f (14 + 2 * mi)) 2000 M ∧ (∃ u, pt_W K w (f 5) (f 6) 1 1 u) ∧ (∃ u, pt_W K w (f 7) (f 8) 0 1 u) ∧ ∃ u, pt_W K w (f 9) (f 10) 0 1 u
abbrev fp_S (f : Nat → Nat) (mi : Nat) : List Nat := [f 5, f 6, f 7, f 8, f 9, f 10, f (13 + 2 * mi), f (14 + 2 * mi)]
theorem pt_S.made {w w' : mp_W} {M M' : List Int} (h : pt_S K w f mi M) (hf : ph_i f) (hm : mi = 16 ∨ mi = 17) (ho : mp_off [f (13 + 2 * mi), f (14 + 2 * mi)] w w') (hp : pt_T K w' (f (13 + 2 * mi)) (f (14 + 2 * mi)) 2000 M') : pt_S K w' f mi M' := by
  obtain ⟨h1, -, ⟨u1, h3⟩, ⟨u2, h4⟩, u3, h5⟩ := h
  have nn : ∀ a, a < 13 → f a ∉ [f (13 + 2 * mi), f (14 + 2 * mi)] := fun a ha => hf.nin (by omega) [13 + 2 * mi, 14 + 2 * mi] (by intro b hb; simp at hb; omega)
  exact ⟨by rw [ho _ (nn 2 (by decide))]; exact h1, hp, ⟨u1, h3.off ho (nn 5 (by decide)) (nn 6 (by decide))⟩, ⟨u2, h4.off ho (nn 7 (by decide)) (nn 8 (by decide))⟩, u3, h5.off ho (nn 9 (by decide)) (nn 10 (by decide))⟩
theorem pt_S.lev {w w' : mp_W} {M : List Int} (h : pt_S K w f mi M) (hf : ph_i f) (hm : mi = 16 ∨ mi = 17) (ho : mp_off [f 5, f 6] w w') (hw : ∃ u, pt_W K w' (f 5) (f 6) 1 1 u) : pt_S K w' f mi M := by
  obtain ⟨h1, h2, -, ⟨u2, h4⟩, u3, h5⟩ := h
  have nn : ∀ a, a < 49 → a ≠ 5 → a ≠ 6 → f a ∉ [f 5, f 6] := fun a ha q1 q2 => hf.nin ha [5, 6] (by intro b hb; simp at hb; omega)
  exact ⟨by rw [ho _ (nn 2 (by decide) (by decide) (by decide))]; exact h1, h2.off ho (nn _ (by omega) (by omega) (by omega)) (nn _ (by omega) (by omega) (by omega)), hw, ⟨u2, h4.off ho (nn 7 (by decide) (by decide) (by decide)) (nn 8 (by decide) (by decide) (by decide))⟩, u3, h5.off ho (nn 9 (by decide) (by decide) (by decide)) (nn 10 (by decide) (by decide) (by decide))⟩
theorem mp_off.sub {S : List Nat} {w w1 : mp_W} (h : mp_off S w w1) {S' : List Nat} (hs : S.all (fun q => S'.contains q) = true) : mp_off S' w w1 := h.mono (fun q hq => by
  have := List.all_eq_true.mp hs q hq
  exact List.contains_iff_mem.mp this)
set_option maxRecDepth 100000 in
theorem kS_join (hl0 : l.stackTraces = false) {i j ci cj : Nat} {M A B : List Int} (hf : ph_i f) (hm : mi = 16 ∨ mi = 17) (hS : pt_S K w f mi M) (hi : i < 18) (hj : j < 18) (him : i ≠ mi) (hjm : j ≠ mi) (ha : pt_R K w (f (13 + 2 * i)) (f (14 + 2 * i)) ci A) (hb' : pt_R K w (f (13 + 2 * j)) (f (14 + 2 * j)) cj B) :
    ct_X l n0 D K yS_join (Cond.code yS_join cS_join 3 (some (.object "BindingBench$Term"))) 7 180 1 6 [.ref (f 2), .ref (f (13 + 2 * i)), .ref (f (13 + 2 * j))] w (fun v w' => v = some (.ref (f (13 + 2 * mi))) ∧ ¬ pt_bad (-1 :: (A ++ B)) ∧ mp_off (fp_S f mi) w w' ∧ pt_S K w' f mi (-1 :: (A ++ B))) (fun E w' => E = "java/lang/IllegalStateException" ∧ pt_bad (-1 :: (A ++ B)) ∧ mp_off (fp_S f mi) w w' ∧ ∃ M', pt_S K w' f mi M') := by
  have hA2 : A.length ≤ 2000 := Nat.le_trans ha.2.1 ha.2.2.1
  have hB2 : B.length ≤ 2000 := Nat.le_trans hb'.2.1 hb'.2.2.1
  have nm : ∀ a, a < 49 → a ≠ 13 + 2 * mi → a ≠ 14 + 2 * mi → f a ∉ [f (13 + 2 * mi), f (14 + 2 * mi)] := fun a h q1 q2 => hf.nin h [13 + 2 * mi, 14 + 2 * mi] (by intro b hb; simp at hb; omega)
  have sub2 : ∀ {x y : mp_W}, mp_off [f (13 + 2 * mi), f (14 + 2 * mi)] x y → mp_off (fp_S f mi) x y := fun h => h.mono (fun q hq => by simp at hq ⊢; omega)
  have sub1 : ∀ {x y : mp_W}, mp_off [f 5, f 6] x y → mp_off (fp_S f mi) x y := fun h => h.mono (fun q hq => by simp at hq ⊢; omega)
  obtain ⟨g, kT, kA, kf⟩ := hS.2.1
  refine ct_goX (own := nm_S) (by decide) rfl (Nat.le_of_ble_eq_true rfl) ?_
  intro p e s m below meth c ls hE hI hr hk hout hl
  have hx := hE.1.1.1
  have hb := hE.1.1.2.1
  have hl : lv_has ls 3 [(0, .ref (f 2)), (1, .ref (f (13 + 2 * i))), (2, .ref (f (13 + 2 * j)))] := hl
  refine lv_aload_n hx hb dS_join_0 rfl (lv_at hl 0 rfl) ?_
  refine mp_get hE.1 hI hS.1 rfl gx_S 0 (by decide) (List.mem_cons_of_mem _ gf_S14) rfl dS_join_1 ?_
  refine ct_V (n := 0) hE hI (kT_clear kT) kT rfl gm_S38 gi_T_clear gs_T_T_clear gz_T gc_T_clear (by decide +kernel) ⟨Nat.le_of_ble_eq_true rfl, Nat.le_of_ble_eq_true rfl⟩ rfl hl.1 rfl (Nat.le_of_ble_eq_true rfl) dS_join_4 ⟨Nat.le_of_ble_eq_true rfl, Nat.le_of_ble_eq_true rfl⟩ (fun v w1 H locs hq hI => ?_)
  obtain ⟨rfl, hw1⟩ := hq
  have ho1 : mp_off [f (13 + 2 * mi), f (14 + 2 * mi)] w w1 := by rw [hw1]; exact (mp_off.rf _ _).up (by simp) _
  have hp1 : pt_T K w1 (f (13 + 2 * mi)) (f (14 + 2 * mi)) 2000 [] := ⟨g, by rw [hw1]; exact mp_up_self .., by rw [hw1, mp_up_ne _ _ (hf.ne (by omega) (by omega) (by omega))]; exact kA, fun _ a x h => by simp at h⟩
  have hS1 := hS.made hf hm ho1 hp1
  clear hw1
  show W _ _ _ _ _ _ _ _ _ _ _ _ _ _ _ (F0 _ _ _ [])
  refine lv_aload_n hx hb dS_join_7 rfl (lv_at hl 0 rfl) ?_
  refine mp_get hE.1 hI hS1.1 rfl gx_S 0 (by decide) (List.mem_cons_of_mem _ gf_S14) rfl dS_join_8 ?_
  refine lv_iconst (v := (-1)) hx hb dS_join_11 (by decide) ?_
  obtain ⟨g1, kT1, kA1, kf1⟩ := id hp1
  refine ct_V (n := 1) hE hI (kT_add (z := -1) hp1 (by decide) (by simp)) kT1 rfl gm_S41 gi_T_add gs_T_T_add gz_T gc_T_add (by decide +kernel) ⟨Nat.le_of_ble_eq_true rfl, Nat.le_of_ble_eq_true rfl⟩ rfl hl.1 rfl (Nat.le_of_ble_eq_true rfl) dS_join_12 ⟨Nat.le_of_ble_eq_true rfl, Nat.le_of_ble_eq_true rfl⟩ (fun v w2 H locs hq hI => ?_)
  obtain ⟨rfl, ho2, hp2⟩ := hq
  have hS2 := hS1.made hf hm ho2 hp2
  show W _ _ _ _ _ _ _ _ _ _ _ _ _ _ _ (F0 _ _ _ [])
  have ho2' := ho1.tr ho2
  obtain ⟨ga, aT, aA, af, ac, ac2, ax⟩ := (ha.off ho2' (nm _ (by omega) (by omega) (by omega)) (nm _ (by omega) (by omega) (by omega))).out
  refine lv_aload_n hx hb dS_join_15 rfl (lv_at hl 0 rfl) ?_
  refine mp_get hE.1 hI hS2.1 rfl gx_S 0 (by decide) (List.mem_cons_of_mem _ gf_S14) rfl dS_join_16 ?_
  refine lv_aload_n hx hb dS_join_19 rfl (lv_at hl 1 rfl) ?_
  refine lv_iconst (v := nI 0) hx hb dS_join_20 (by decide) ?_
  refine lv_aload_n hx hb dS_join_21 rfl (lv_at hl 1 rfl) ?_
  refine mp_getN hE.1 hI aT rfl gx_T 1 (by decide) (ct_nw hE (q := ("BindingBench$Workshop", 44, "BindingBench$Term", "size", "I")) (by decide +kernel)) rfl dS_join_22 ?_
  obtain ⟨g2, kT2, kA2, kf2⟩ := id hp2
  refine ct_V (n := 3) hE hI (kT_addAll (a := 0) (b := A.length) hp2 aT aA af ac (by omega) (by omega) (by decide) (by omega) (by simp)) kT2 rfl gm_S48 gi_T_addAll gs_T_T_addAll gz_T gc_T_addAll (by decide +kernel) ⟨Nat.le_of_ble_eq_true rfl, Nat.le_of_ble_eq_true rfl⟩ rfl hl.1 rfl (Nat.le_of_ble_eq_true rfl) dS_join_25 ⟨Nat.le_of_ble_eq_true rfl, Nat.le_of_ble_eq_true rfl⟩ (fun v w3 H locs hq hI => ?_)
  obtain ⟨rfl, ho3, hp3⟩ := hq
  have hS3 := hS2.made hf hm ho3 hp3
  show W _ _ _ _ _ _ _ _ _ _ _ _ _ _ _ (F0 _ _ _ [])
  have ho3' := ho2'.tr ho3
  obtain ⟨gb, bT, bA, bf, bc, bc2, bx⟩ := (hb'.off ho3' (nm _ (by omega) (by omega) (by omega)) (nm _ (by omega) (by omega) (by omega))).out
  refine lv_aload_n hx hb dS_join_28 rfl (lv_at hl 0 rfl) ?_
  refine mp_get hE.1 hI hS3.1 rfl gx_S 0 (by decide) (List.mem_cons_of_mem _ gf_S14) rfl dS_join_29 ?_
  refine lv_aload_n hx hb dS_join_32 rfl (lv_at hl 2 rfl) ?_
  refine lv_iconst (v := nI 0) hx hb dS_join_33 (by decide) ?_
  refine lv_aload_n hx hb dS_join_34 rfl (lv_at hl 2 rfl) ?_
  refine mp_getN hE.1 hI bT rfl gx_T 1 (by decide) (ct_nw hE (q := ("BindingBench$Workshop", 44, "BindingBench$Term", "size", "I")) (by decide +kernel)) rfl dS_join_35 ?_
  obtain ⟨g3, kT3, kA3, kf3⟩ := id hp3
  refine ct_V (n := 3) hE hI (kT_addAll (a := 0) (b := B.length) hp3 bT bA bf bc (by omega) (by omega) (by decide) (by omega) (by simp; omega)) kT3 rfl gm_S48 gi_T_addAll gs_T_T_addAll gz_T gc_T_addAll (by decide +kernel) ⟨Nat.le_of_ble_eq_true rfl, Nat.le_of_ble_eq_true rfl⟩ rfl hl.1 rfl (Nat.le_of_ble_eq_true rfl) dS_join_38 ⟨Nat.le_of_ble_eq_true rfl, Nat.le_of_ble_eq_true rfl⟩ (fun v w4 H locs hq hI => ?_)
  obtain ⟨rfl, ho4, hp4⟩ := hq
  have e4 : [] ++ [-1] ++ List.take (A.length - 0) (List.drop 0 A) ++ List.take (B.length - 0) (List.drop 0 B) = -1 :: (A ++ B) := by simp
  rw [e4] at hp4
  have hS4 := hS3.made hf hm ho4 hp4
  show W _ _ _ _ _ _ _ _ _ _ _ _ _ _ _ (F0 _ _ _ [])
  have ho4' := ho3'.tr ho4
  refine lv_aload_n hx hb dS_join_41 rfl (lv_at hl 0 rfl) ?_
  obtain ⟨u4, hw4⟩ := hS4.2.2.1
  refine ct_VX (n := 0) hE hI (kS_checked hl0 hf hm hS4.1 hp4 (by simp; omega) (fun _ x hx => by rcases List.mem_cons.mp hx with e | e; omega; rcases List.mem_append.mp e with e | e; exact ax x e; exact bx x e) hw4) hS4.1 rfl gm_S52 gi_S_checked gs_S_S_checked gz_S gc_S_checked (by decide +kernel) ⟨Nat.le_of_ble_eq_true rfl, Nat.le_of_ble_eq_true rfl⟩ rfl hl.1 rfl (Nat.le_of_ble_eq_true rfl) dS_join_42 ⟨Nat.le_of_ble_eq_true rfl, Nat.le_of_ble_eq_true rfl⟩ (fun v w5 H locs hq hI => ?_) (fun E q ce w5 H locs ht hI hq hv hcl => ?_)
  · obtain ⟨rfl, hn, ho5, hu5⟩ := hq
    exact vx_ret (ct_aret hE hI hr (Or.inl ⟨_, rfl⟩) hk ⟨rfl, hn, (sub2 ho4').tr (sub1 ho5), hS4.lev hf hm ho5 hu5⟩ (by decide) (by decide) dS_join_45)
  · obtain ⟨rfl, hn, ho5, hu5⟩ := ht
    exact ct_out hI hout hk hq hv hcl ⟨rfl, hn, (sub2 ho4').tr (sub1 ho5), _, hS4.lev hf hm ho5 hu5⟩ (by decide) (by decide)
end KS2
end
section
/-! Workshop: addRaised, addFilled -/
theorem lp_5 {α β γ δ : Type} {G : α → β → γ → δ → Prop} (I : Nat → α → β → γ → δ → Prop) (hs : ∀ k x y z u, I k x y z u → (∀ k' x' y' z' u', k' < k → I k' x' y' z' u' → G x' y' z' u') → G x y z u) (k : Nat) (x : α) (y : β) (z : γ) (u : δ) (h : I k x y z u) : G x y z u := lp_4 I hs k x y z u h
theorem tm_fl_len1 (m : Nat) (P : List Int) : ∀ u, (tm_fl 0 1 (tm_gr m) P u).length = P.length := by
  induction P with
  | nil => intro u; rfl
  | cons x P ih => intro u; rw [tm_fl_cons, List.length_append, ih, List.length_cons]; show 1 + _ = _; omega
theorem tm_fl_gr0 (P : List Int) : ∀ u, tm_fl 0 1 (tm_gr 0) P u = P := by
  induction P with
  | nil => intro u; rfl
  | cons x P ih =>
    intro u
    rw [tm_fl_cons, ih]
    show [if _ then x + ((0 : Nat) : Int) else x] ++ P = x :: P
    split <;> simp
theorem pt_T.len {K : Nat → ClassId} {w : mp_W} {t ar cap : Nat} {L L' : List Int} (h : pt_T K w t ar cap L) (he : L'.length = L.length) (hc : cap < L.length) : pt_T K w t ar cap L' := by
  obtain ⟨f, h1, h2, h3⟩ := h
  exact ⟨f, by rw [he]; exact h1, h2, fun q => by omega⟩
theorem pt_rest {B : List Int} {i b : Nat} {x : Int} (h : B[i]? = some x) (hb : i < b) : (B.drop i).take (b - i) = x :: (B.drop (i + 1)).take (b - (i + 1)) := by
  rw [pt_drop h, show b - i = (b - (i + 1)) + 1 by omega, List.take_succ_cons]
theorem pt_rest0 {B : List Int} {b : Nat} : (B.drop b).take (b - b) = [] := by rw [Nat.sub_self]; rfl
section KS3
variable {l : Launch} {n0 : Nat} {D : va_G} {K : Nat → ClassId} {w : mp_W} {f : Nat → Nat} {mi : Nat}
abbrev fp_R (f : Nat → Nat) (mi : Nat) : List Nat := [f 9, f 10, f (13 + 2 * mi), f (14 + 2 * mi)]
theorem pt_S.inn {w w' : mp_W} {M : List Int} (h : pt_S K w f mi M) (hf : ph_i f) (hm : mi = 16 ∨ mi = 17) (ho : mp_off [f 9, f 10] w w') (hw : ∃ u, pt_W K w' (f 9) (f 10) 0 1 u) : pt_S K w' f mi M := by
  obtain ⟨h1, h2, ⟨u1, h3⟩, ⟨u2, h4⟩, -⟩ := h
  have nn : ∀ a, a < 49 → a ≠ 9 → a ≠ 10 → f a ∉ [f 9, f 10] := fun a ha q1 q2 => hf.nin ha [9, 10] (by intro b hb; simp at hb; omega)
  exact ⟨by rw [ho _ (nn 2 (by decide) (by decide) (by decide))]; exact h1, h2.off ho (nn _ (by omega) (by omega) (by omega)) (nn _ (by omega) (by omega) (by omega)), ⟨u1, h3.off ho (nn 5 (by decide) (by decide) (by decide)) (nn 6 (by decide) (by decide) (by decide))⟩, ⟨u2, h4.off ho (nn 7 (by decide) (by decide) (by decide)) (nn 8 (by decide) (by decide) (by decide))⟩, hw⟩
theorem pt_S.bin {w w' : mp_W} {M : List Int} (h : pt_S K w f mi M) (hf : ph_i f) (hm : mi = 16 ∨ mi = 17) (ho : mp_off [f 7, f 8] w w') (hw : ∃ u, pt_W K w' (f 7) (f 8) 0 1 u) : pt_S K w' f mi M := by
  obtain ⟨h1, h2, ⟨u1, h3⟩, -, u3, h5⟩ := h
  have nn : ∀ a, a < 49 → a ≠ 7 → a ≠ 8 → f a ∉ [f 7, f 8] := fun a ha q1 q2 => hf.nin ha [7, 8] (by intro b hb; simp at hb; omega)
  exact ⟨by rw [ho _ (nn 2 (by decide) (by decide) (by decide))]; exact h1, h2.off ho (nn _ (by omega) (by omega) (by omega)) (nn _ (by omega) (by omega) (by omega)), ⟨u1, h3.off ho (nn 5 (by decide) (by decide) (by decide)) (nn 6 (by decide) (by decide) (by decide))⟩, hw, u3, h5.off ho (nn 9 (by decide) (by decide) (by decide)) (nn 10 (by decide) (by decide) (by decide))⟩
set_option maxRecDepth 100000 in
theorem kS_addRaised {j cj a b mo : Nat} {M B : List Int} (hf : ph_i f) (hm : mi = 16 ∨ mi = 17) (hS : pt_S K w f mi M) (hj : j < 18) (hjm : j ≠ mi) (hb' : pt_R K w (f (13 + 2 * j)) (f (14 + 2 * j)) cj B) (hab : a ≤ b) (hbB : b ≤ B.length) (hmo : mo ≤ 1000000) (hML : M.length ≤ 100000000) :
    ct_M l n0 D K yS_addRaised (Cond.code yS_addRaised cS_addRaised 7 none) 2 100 0 0 [.ref (f 2), .ref (f (13 + 2 * j)), .int (nI a), .int (nI b), .int (nI mo)] w (fun v w' => v = none ∧ mp_off (fp_R f mi) w w' ∧ pt_S K w' f mi (M ++ tm_fl 0 1 (tm_gr mo) ((B.drop a).take (b - a)) ([], 0))) := by
  have hB2 : B.length ≤ 2000 := Nat.le_trans hb'.2.1 hb'.2.2.1
  have nm : ∀ x, x < 49 → x ≠ 13 + 2 * mi → x ≠ 14 + 2 * mi → f x ∉ [f (13 + 2 * mi), f (14 + 2 * mi)] := fun x h q1 q2 => hf.nin h [13 + 2 * mi, 14 + 2 * mi] (by intro b hb; simp at hb; omega)
  have ni : ∀ x, x < 49 → x ≠ 9 → x ≠ 10 → f x ∉ [f 9, f 10] := fun x h q1 q2 => hf.nin h [9, 10] (by intro b hb; simp at hb; omega)
  have nr : ∀ x, x < 49 → x ≠ 9 → x ≠ 10 → x ≠ 13 + 2 * mi → x ≠ 14 + 2 * mi → f x ∉ fp_R f mi := fun x h q1 q2 q3 q4 => hf.nin h [9, 10, 13 + 2 * mi, 14 + 2 * mi] (by intro b hb; simp at hb; omega)
  have sub2 : ∀ {x y : mp_W}, mp_off [f (13 + 2 * mi), f (14 + 2 * mi)] x y → mp_off (fp_R f mi) x y := fun h => h.mono (fun q hq => by simp at hq ⊢; omega)
  have sub1 : ∀ {x y : mp_W}, mp_off [f 9, f 10] x y → mp_off (fp_R f mi) x y := fun h => h.mono (fun q hq => by simp at hq ⊢; omega)
  obtain ⟨g, kT, kA, kf⟩ := id hS.2.1
  obtain ⟨gb, bT, bA, bf, bc, bc2, bx⟩ := hb'.out
  have hPl : ((B.drop a).take (b - a)).length = b - a := by rw [List.length_take, List.length_drop]; omega
  refine ct_go (own := nm_S) (by decide) rfl (Nat.le_of_ble_eq_true rfl) ?_
  intro p e s m below meth c ls hE hI hr hk hn hl
  have hx := hE.1.1.1
  have hb := hE.1.1.2.1
  have hl : lv_has ls 7 [(0, .ref (f 2)), (1, .ref (f (13 + 2 * j))), (2, .int (nI a)), (3, .int (nI b)), (4, .int (nI mo))] := hl
  have plain : (mo = 0 ∨ 2000 < M.length + (b - a)) → ∀ (H : Heap) (locs : List Loc), mp_I D cl_all (mp_A w s.heap.size) s.heap w H locs → W p l e { frames := 2, cells := 0, slots := 0, locals := 100 } s m ([Value.ref (f 2), .ref (f (13 + 2 * j)), .int (nI a), .int (nI b), .int (nI mo)] : List Value).toArray below meth c H locs 0 0 (MQ below (ct_Q D w s.heap.size (fun v w' => v = none ∧ mp_off (fp_R f mi) w w' ∧ pt_S K w' f mi (M ++ tm_fl 0 1 (tm_gr mo) ((B.drop a).take (b - a)) ([], 0)))) ([Value.ref (f 2), .ref (f (13 + 2 * j)), .int (nI a), .int (nI b), .int (nI mo)] : List Value).toArray s 0 0 (mp_A w s.heap.size)) (F0 m 18 ls []) := by
    intro hcase H locs hI
    refine lv_aload_n hx hb dS_addRaised_18 rfl (lv_at hl 0 rfl) ?_
    refine mp_get hE.1 hI hS.1 rfl gx_S 0 (by decide) (List.mem_cons_of_mem _ gf_S14) rfl dS_addRaised_19 ?_
    refine lv_aload_n hx hb dS_addRaised_22 rfl (lv_at hl 1 rfl) ?_
    refine lv_iload_n hx hb dS_addRaised_23 rfl (lv_at hl 2 rfl) ?_
    refine lv_iload_n hx hb dS_addRaised_24 rfl (lv_at hl 3 rfl) ?_
    refine ct_V (n := 3) hE hI (kT_addAll (a := a) (b := b) hS.2.1 bT bA bf bc hab hbB (by decide) (by omega) (by omega)) kT rfl gm_S48 gi_T_addAll gs_T_T_addAll gz_T gc_T_addAll (by decide +kernel) ⟨Nat.le_of_ble_eq_true rfl, Nat.le_of_ble_eq_true rfl⟩ rfl hl.1 rfl (Nat.le_of_ble_eq_true rfl) dS_addRaised_25 ⟨Nat.le_of_ble_eq_true rfl, Nat.le_of_ble_eq_true rfl⟩ (fun v w1 H locs hq hI => ?_)
    obtain ⟨rfl, ho1, hp1⟩ := hq
    have hp2 : pt_T K w1 (f (13 + 2 * mi)) (f (14 + 2 * mi)) 2000 (M ++ tm_fl 0 1 (tm_gr mo) ((B.drop a).take (b - a)) ([], 0)) := by
      rcases hcase with h0 | h0
      · subst h0; rw [tm_fl_gr0]; exact hp1
      · exact hp1.len (by rw [List.length_append, List.length_append, tm_fl_len1]) (by rw [List.length_append, hPl]; omega)
    exact ct_vret hE hI hr hk ⟨rfl, sub2 ho1, hS.made hf hm ho1 hp2⟩ (by decide) (by decide) dS_addRaised_28
  refine lv_iload hx hb dS_addRaised_0 (lv_at hl 4 rfl) ?_
  refine lv_if_eq (tgt := 18) hx hb dS_addRaised_2 (by decide) (fun h0 => ?_) (fun h0 => ?_)
  · have h0 : mo = 0 := (nI_eq (b := 0) (by omega) (by omega)).mp h0
    exact plain (Or.inl h0) _ _ hI
  · skip
    refine lv_aload_n hx hb dS_addRaised_5 rfl (lv_at hl 0 rfl) ?_
    refine mp_get hE.1 hI hS.1 rfl gx_S 0 (by decide) (List.mem_cons_of_mem _ gf_S14) rfl dS_addRaised_6 ?_
    refine lv_iload_n hx hb dS_addRaised_9 rfl (lv_at hl 3 rfl) ?_
    refine lv_iload_n hx hb dS_addRaised_10 rfl (lv_at hl 2 rfl) ?_
    refine lv_isub hx hb dS_addRaised_11 ?_
    rw [pk_sub hab]
    refine ct_V (n := 1) hE hI (kT_takes kT kA) kT rfl gm_S109 gi_T_takes gs_T_T_takes gz_T gc_T_takes (by decide +kernel) ⟨Nat.le_of_ble_eq_true rfl, Nat.le_of_ble_eq_true rfl⟩ rfl hl.1 rfl (Nat.le_of_ble_eq_true rfl) dS_addRaised_12 ⟨Nat.le_of_ble_eq_true rfl, Nat.le_of_ble_eq_true rfl⟩ (fun v w1 H locs hq hI => ?_)
    obtain ⟨rfl, hw⟩ := hq
    subst w1
    show W _ _ _ _ _ _ _ _ _ _ _ _ _ _ _ (F0 _ _ _ [.int _])
    refine lv_if_ne (tgt := 29) hx hb dS_addRaised_15 (by decide) (fun hc => ?_) (fun hc => ?_)
    · have hcc : ¬ nI 2000 - nI M.length < nI (b - a) := by
        intro q
        rw [if_pos q] at hc
        exact hc rfl
      rw [ci_subN, ← ci_nat, ci_lt (by omega) (by omega)] at hcc
      obtain ⟨u0, hw0⟩ := id hS.2.2.2.2
      obtain ⟨gw, iT, iA⟩ := id hw0
      refine lv_aload_n hx hb dS_addRaised_29 rfl (lv_at hl 0 rfl) ?_
      refine mp_get hE.1 hI hS.1 rfl gx_S 4 (by decide) (List.mem_cons_of_mem _ gf_S35) rfl dS_addRaised_30 ?_
      refine ct_V (n := 0) hE hI (kW_start hw0) iT rfl gm_S56 gi_W_start gs_W_W_start gz_W gc_W_start (by decide +kernel) ⟨Nat.le_of_ble_eq_true rfl, Nat.le_of_ble_eq_true rfl⟩ rfl hl.1 rfl (Nat.le_of_ble_eq_true rfl) dS_addRaised_33 ⟨Nat.le_of_ble_eq_true rfl, Nat.le_of_ble_eq_true rfl⟩ (fun v w1 H locs hq hI => ?_)
      obtain ⟨rfl, ho1, hw1⟩ := hq
      show W _ _ _ _ _ _ _ _ _ _ _ _ _ _ _ (F0 _ _ _ [])
      refine lv_iload_n hx hb dS_addRaised_36 rfl (lv_at hl 2 rfl) ?_
      refine lv_istore hx hb dS_addRaised_37 hl (by decide) rfl (fun ls hl => ?_)
      refine lp_4 (G := fun ls w2 H locs => W p l e _ s m _ below meth c H locs 0 0 _ (F0 m 39 ls [])) (I := fun k ls w2 H locs => ∃ i u M', k = b - i ∧ a ≤ i ∧ i ≤ b ∧ M'.length = M.length + (i - a) ∧ pt_ub u i ∧ M' ++ tm_fl 0 1 (tm_gr mo) ((B.drop i).take (b - i)) u = M ++ tm_fl 0 1 (tm_gr mo) ((B.drop a).take (b - a)) ([], 0) ∧ lv_has ls 7 [(5, .int (nI i)), (0, .ref (f 2)), (1, .ref (f (13 + 2 * j))), (2, .int (nI a)), (3, .int (nI b)), (4, .int (nI mo))] ∧ mp_off (fp_R f mi) w w2 ∧ pt_S K w2 f mi M' ∧ pt_W K w2 (f 9) (f 10) 0 1 u ∧ mp_I D cl_all (mp_A w s.heap.size) s.heap w2 H locs) ?_ (b - a) ls w1 H locs ⟨a, ([], 0), M, rfl, Nat.le_refl _, hab, by omega, ⟨Nat.zero_le _, fun _ h => by cases h⟩, rfl, hl, sub1 ho1, hS.inn hf hm ho1 ⟨_, hw1⟩, hw1, hI⟩
      clear hl hI ho1 hw1 plain
      intro k ls w2 H locs hk0 ih
      obtain ⟨i, u, M', rfl, hai, hib, hM', hub, heq, hl, ho, hS2, hw2, hI⟩ := hk0
      obtain ⟨gb, bT, bA, bf, bc, bc2, bx⟩ := (hb'.off ho (nr _ (by omega) (by omega) (by omega) (by omega) (by omega)) (nr _ (by omega) (by omega) (by omega) (by omega) (by omega))).out
      obtain ⟨g2, iT, iA⟩ := id hw2
      refine lv_iload hx hb dS_addRaised_39 (lv_at hl 0 rfl) ?_
      refine lv_iload_n hx hb dS_addRaised_41 rfl (lv_at hl 4 rfl) ?_
      refine lv_icmp_ge (tgt := 101) hx hb dS_addRaised_42 (by decide) (fun hq => ?_) (fun hq => ?_)
      · have hq : b ≤ i := (nI_leI (by omega) (by omega)).mp hq
        have : i = b := by omega
        subst this
        rw [pt_rest0] at heq
        have heq : M' ++ [] = _ := heq
        rw [List.append_nil] at heq
        exact ct_vret hE hI hr hk ⟨rfl, ho, by rw [← heq]; exact hS2⟩ (by decide) (by decide) dS_addRaised_101
      · have hq : i < b := Nat.lt_of_not_le (fun h => hq (nI_le h (by omega)))
        obtain ⟨x, e1, m1⟩ := pt_at (show i < B.length by omega)
        have b1 := bx x m1
        have hu2 := hub.1
        rw [pt_rest e1 hq, tm_fl_cons] at heq
        obtain ⟨gm, mT, mA, mf⟩ := id hS2.2.1
        refine lv_aload_n hx hb dS_addRaised_45 rfl (lv_at hl 2 rfl) ?_
        refine mp_getN hE.1 hI bT rfl gx_T 0 (by decide) (ct_nw hE (q := ("BindingBench$Workshop", 59, "BindingBench$Term", "cells", "[I")) (by decide +kernel)) rfl dS_addRaised_46 ?_
        refine lv_iload hx hb dS_addRaised_49 (lv_at hl 0 rfl) ?_
        refine mp_ild hE.1 hI bA 0 rfl (vp_in_nI (by omega) (by omega)) dS_addRaised_51 ?_
        rw [nI_clamp (by omega), bf i x e1]
        refine lv_istore hx hb dS_addRaised_52 hl (by decide) rfl (fun ls hl => ?_)
        refine lv_aload_n hx hb dS_addRaised_54 rfl (lv_at hl 2 rfl) ?_
        refine mp_get hE.1 hI hS2.1 rfl gx_S 0 (by decide) (List.mem_cons_of_mem _ gf_S14) rfl dS_addRaised_55 ?_
        refine lv_iload hx hb dS_addRaised_58 (lv_at hl 0 rfl) ?_
        refine lv_bipush (v := nI 99) hx hb dS_addRaised_60 (by decide) ?_
        refine lv_aload_n hx hb dS_addRaised_62 rfl (lv_at hl 2 rfl) ?_
        refine mp_get hE.1 hI hS2.1 rfl gx_S 4 (by decide) (List.mem_cons_of_mem _ gf_S35) rfl dS_addRaised_63 ?_
        refine mp_getN hE.1 hI iT rfl gx_W 4 (by decide) (ct_nw hE (q := ("BindingBench$Workshop", 63, "BindingBench$Walk", "count", "I")) (by decide +kernel)) rfl dS_addRaised_66 ?_
        refine lv_iadd hx hb dS_addRaised_69 ?_
        rw [nI_add]
        have after : ∀ z, tm_gr mo x u.2 = [z] → ∀ (ls : Array Slot), lv_has ls 7 [(6, .int (ci_i x)), (5, .int (nI i)), (0, .ref (f 2)), (1, .ref (f (13 + 2 * j))), (2, .int (nI a)), (3, .int (nI b)), (4, .int (nI mo))] → W p l e { frames := 2, cells := 0, slots := 0, locals := 100 } s m ([Value.ref (f 2), .ref (f (13 + 2 * j)), .int (nI a), .int (nI b), .int (nI mo)] : List Value).toArray below meth c H locs 0 0 (MQ below (ct_Q D w s.heap.size (fun v w' => v = none ∧ mp_off (fp_R f mi) w w' ∧ pt_S K w' f mi (M ++ tm_fl 0 1 (tm_gr mo) ((B.drop a).take (b - a)) ([], 0)))) ([Value.ref (f 2), .ref (f (13 + 2 * j)), .int (nI a), .int (nI b), .int (nI mo)] : List Value).toArray s 0 0 (mp_A w s.heap.size)) (F0 m 83 ls [.int (ci_i z), .ref (f (13 + 2 * mi))]) := by
          intro z hz ls hl
          refine ct_V (n := 1) hE hI (kT_add (z := z) hS2.2.1 (by decide) (by omega)) mT rfl gm_S41 gi_T_add gs_T_T_add gz_T gc_T_add (by decide +kernel) ⟨Nat.le_of_ble_eq_true rfl, Nat.le_of_ble_eq_true rfl⟩ rfl hl.1 rfl (Nat.le_of_ble_eq_true rfl) dS_addRaised_83 ⟨Nat.le_of_ble_eq_true rfl, Nat.le_of_ble_eq_true rfl⟩ (fun v w3 H locs hq hI => ?_)
          obtain ⟨rfl, ho3, hp3⟩ := hq
          have hS3 := hS2.made hf hm ho3 hp3
          have hw3 : pt_W K w3 (f 9) (f 10) 0 1 u := hw2.off ho3 (nm _ (by omega) (by omega) (by omega)) (nm _ (by omega) (by omega) (by omega))
          obtain ⟨g3, iT3, iA3⟩ := id hw3
          show W _ _ _ _ _ _ _ _ _ _ _ _ _ _ _ (F0 _ _ _ [])
          refine lv_aload_n hx hb dS_addRaised_86 rfl (lv_at hl 2 rfl) ?_
          refine mp_get hE.1 hI hS3.1 rfl gx_S 4 (by decide) (List.mem_cons_of_mem _ gf_S35) rfl dS_addRaised_87 ?_
          refine lv_iload hx hb dS_addRaised_90 (lv_at hl 0 rfl) ?_
          refine ct_V (n := 1) hE hI (kW_pass (x := x) hw3 b1 (by omega)) iT3 rfl gm_S66 gi_W_pass gs_W_W_pass gz_W gc_W_pass (by decide +kernel) ⟨Nat.le_of_ble_eq_true rfl, Nat.le_of_ble_eq_true rfl⟩ rfl hl.1 rfl (Nat.le_of_ble_eq_true rfl) dS_addRaised_92 ⟨Nat.le_of_ble_eq_true rfl, Nat.le_of_ble_eq_true rfl⟩ (fun v w4 H locs hq hI => ?_)
          obtain ⟨rfl, ho4, hw4⟩ := hq
          show W _ _ _ _ _ _ _ _ _ _ _ _ _ _ _ (F0 _ _ _ [])
          refine lv_iinc (k := 1) (v := nI (i + 1)) hx hb dS_addRaised_95 hl rfl (nI_1 i) (by decide) rfl (fun ls hl => ?_)
          refine lv_goto (tgt := 39) hx hb dS_addRaised_98 (by decide) ?_
          have hl := lv_sub hl [0, 2, 3, 4, 5, 6] rfl
          refine ih (b - (i + 1)) ls w4 H locs (by omega) ⟨i + 1, tm_wk 0 1 u x, M' ++ [z], rfl, by omega, by omega, by rw [List.length_append]; show M'.length + 1 = _; omega, hub.wk (by omega) (by omega) x, ?_, hl, (ho.tr (sub2 ho3)).tr (sub1 ho4), hS3.inn hf hm ho4 ⟨_, hw4⟩, hw4, hI⟩
          rw [← heq, hz, List.append_assoc]
        refine lv_icmp_le (tgt := 81) hx hb dS_addRaised_70 (by decide) (fun hy => ?_) (fun hy => ?_)
        · have hy : x ≤ ((99 + u.2 : Nat) : Int) := by
            rw [← ci_nat] at hy
            exact (ci_le (by omega) (by omega)).mp hy
          refine lv_iload hx hb dS_addRaised_81 (lv_at hl 0 rfl) ?_
          exact after x (by unfold tm_gr; rw [if_neg (by omega)]) ls hl
        · have hy : ((99 + u.2 : Nat) : Int) < x := by
            rw [← ci_nat] at hy
            have : ¬ x ≤ ((99 + u.2 : Nat) : Int) := fun q => hy ((ci_le (by omega) (by omega)).mpr q)
            omega
          refine lv_iload hx hb dS_addRaised_73 (lv_at hl 0 rfl) ?_
          refine lv_iload hx hb dS_addRaised_75 (lv_at hl 6 rfl) ?_
          refine lv_iadd hx hb dS_addRaised_77 ?_
          rw [← ci_nat mo, ci_add]
          refine lv_goto (tgt := 83) hx hb dS_addRaised_78 (by decide) ?_
          exact after (x + mo) (by unfold tm_gr; rw [if_pos (by omega)]) ls hl
    · have hcc : nI 2000 - nI M.length < nI (b - a) := by
        by_cases q : nI 2000 - nI M.length < nI (b - a)
        · exact q
        · rw [if_neg q] at hc
          exact absurd hc (by decide)
      rw [ci_subN, ← ci_nat, ci_lt (by omega) (by omega)] at hcc
      exact plain (Or.inr (by omega)) _ _ hI
end KS3
end
section
/-! Workshop: addFilled -/
section KS4
variable {l : Launch} {n0 : Nat} {D : va_G} {K : Nat → ClassId} {w : mp_W} {f : Nat → Nat} {mi : Nat}
abbrev fp_F (f : Nat → Nat) (mi : Nat) : List Nat := [f 7, f 8, f 9, f 10, f (13 + 2 * mi), f (14 + 2 * mi)]
/-- the inside of a FUNCTION, filled -/
def pt_fill (La Lb : List Int) (u : List Nat × Nat) : List Int := tm_fl 0 1 (tm_gf (fun k => tm_fl 0 1 (tm_gr k) Lb ([], 0))) La u
set_option maxRecDepth 100000 in
theorem kS_addFilled {i ci j cj a b c d : Nat} {M A B : List Int} (hf : ph_i f) (hm : mi = 16 ∨ mi = 17) (hS : pt_S K w f mi M) (hi : i < 18) (him : i ≠ mi) (hj : j < 18) (hjm : j ≠ mi) (ha' : pt_R K w (f (13 + 2 * i)) (f (14 + 2 * i)) ci A) (hb' : pt_R K w (f (13 + 2 * j)) (f (14 + 2 * j)) cj B) (hab : a ≤ b) (hbA : b ≤ A.length) (hcd : c ≤ d) (hdB : d ≤ B.length) (hML : M.length ≤ 2000) :
    ct_M l n0 D K yS_addFilled (Cond.code yS_addFilled cS_addFilled 10 none) 3 150 0 0 [.ref (f 2), .ref (f (13 + 2 * i)), .int (nI a), .int (nI b), .ref (f (13 + 2 * j)), .int (nI c), .int (nI d)] w (fun v w' => v = none ∧ mp_off (fp_F f mi) w w' ∧ pt_S K w' f mi (M ++ pt_fill ((A.drop a).take (b - a)) ((B.drop c).take (d - c)) ([], 0))) := by
  have hA2 : A.length ≤ 2000 := Nat.le_trans ha'.2.1 ha'.2.2.1
  have hB2 : B.length ≤ 2000 := Nat.le_trans hb'.2.1 hb'.2.2.1
  have nm : ∀ x, x < 49 → x ≠ 13 + 2 * mi → x ≠ 14 + 2 * mi → f x ∉ [f (13 + 2 * mi), f (14 + 2 * mi)] := fun x h q1 q2 => hf.nin h [13 + 2 * mi, 14 + 2 * mi] (by intro b hb; simp at hb; omega)
  have nr : ∀ x, x < 49 → x ≠ 9 → x ≠ 10 → x ≠ 13 + 2 * mi → x ≠ 14 + 2 * mi → f x ∉ fp_R f mi := fun x h q1 q2 q3 q4 => hf.nin h [9, 10, 13 + 2 * mi, 14 + 2 * mi] (by intro b hb; simp at hb; omega)
  have nf : ∀ x, 12 < x → x < 49 → x ≠ 13 + 2 * mi → x ≠ 14 + 2 * mi → f x ∉ fp_F f mi := fun x h0 h q3 q4 => hf.nin h [7, 8, 9, 10, 13 + 2 * mi, 14 + 2 * mi] (by intro b hb; simp at hb; omega)
  have sub2 : ∀ {x y : mp_W}, mp_off [f (13 + 2 * mi), f (14 + 2 * mi)] x y → mp_off (fp_F f mi) x y := fun h => h.mono (fun q hq => by simp at hq ⊢; omega)
  have sub1 : ∀ {x y : mp_W}, mp_off [f 7, f 8] x y → mp_off (fp_F f mi) x y := fun h => h.mono (fun q hq => by simp at hq ⊢; omega)
  have sub3 : ∀ {x y : mp_W}, mp_off (fp_R f mi) x y → mp_off (fp_F f mi) x y := fun h => h.mono (fun q hq => by simp at hq ⊢; omega)
  have hPl : ((B.drop c).take (d - c)).length = d - c := by rw [List.length_take, List.length_drop]; omega
  refine ct_go (own := nm_S) (by decide) rfl (Nat.le_of_ble_eq_true rfl) ?_
  intro p e s m below meth c' ls hE hI hr hk hn hl
  have hx := hE.1.1.1
  have hb := hE.1.1.2.1
  have hl : lv_has ls 10 [(0, .ref (f 2)), (1, .ref (f (13 + 2 * i))), (2, .int (nI a)), (3, .int (nI b)), (4, .ref (f (13 + 2 * j))), (5, .int (nI c)), (6, .int (nI d))] := hl
  obtain ⟨u0, hw0⟩ := id hS.2.2.2.1
  obtain ⟨gw, iT, iA⟩ := id hw0
  refine lv_aload_n hx hb dS_addFilled_0 rfl (lv_at hl 0 rfl) ?_
  refine mp_get hE.1 hI hS.1 rfl gx_S 3 (by decide) (List.mem_cons_of_mem _ gf_S32) rfl dS_addFilled_1 ?_
  refine ct_V (n := 0) hE hI (kW_start hw0) iT rfl gm_S56 gi_W_start gs_W_W_start gz_W gc_W_start (by decide +kernel) ⟨Nat.le_of_ble_eq_true rfl, Nat.le_of_ble_eq_true rfl⟩ rfl hl.1 rfl (Nat.le_of_ble_eq_true rfl) dS_addFilled_4 ⟨Nat.le_of_ble_eq_true rfl, Nat.le_of_ble_eq_true rfl⟩ (fun v w1 H locs hq hI => ?_)
  obtain ⟨rfl, ho1, hw1⟩ := hq
  show W _ _ _ _ _ _ _ _ _ _ _ _ _ _ _ (F0 _ _ _ [])
  refine lv_iload_n hx hb dS_addFilled_7 rfl (lv_at hl 2 rfl) ?_
  refine lv_istore hx hb dS_addFilled_8 hl (by decide) rfl (fun ls hl => ?_)
  refine lp_4 (G := fun ls w2 H locs => W p l e _ s m _ below meth c' H locs 0 0 _ (F0 m 10 ls [])) (I := fun k ls w2 H locs => ∃ r u M', k = b - r ∧ a ≤ r ∧ r ≤ b ∧ M'.length ≤ M.length + 2000 * (r - a) ∧ pt_ub u r ∧ M' ++ pt_fill ((A.drop r).take (b - r)) ((B.drop c).take (d - c)) u = M ++ pt_fill ((A.drop a).take (b - a)) ((B.drop c).take (d - c)) ([], 0) ∧ lv_has ls 10 [(7, .int (nI r)), (0, .ref (f 2)), (1, .ref (f (13 + 2 * i))), (2, .int (nI a)), (3, .int (nI b)), (4, .ref (f (13 + 2 * j))), (5, .int (nI c)), (6, .int (nI d))] ∧ mp_off (fp_F f mi) w w2 ∧ pt_S K w2 f mi M' ∧ pt_W K w2 (f 7) (f 8) 0 1 u ∧ mp_I D cl_all (mp_A w s.heap.size) s.heap w2 H locs) ?_ (b - a) ls w1 H locs ⟨a, ([], 0), M, rfl, Nat.le_refl _, hab, by omega, ⟨Nat.zero_le _, fun _ h => by cases h⟩, rfl, hl, sub1 ho1, hS.bin hf hm ho1 ⟨_, hw1⟩, hw1, hI⟩
  clear hl hI ho1 hw1 iT iA hw0
  intro k ls w2 H locs hk0 ih
  obtain ⟨r, u, M', rfl, har, hrb, hM', hub, heq, hl, ho, hS2, hw2, hI⟩ := hk0
  have ha2 := ha'.off ho (nf _ (by omega) (by omega) (by omega) (by omega)) (nf _ (by omega) (by omega) (by omega) (by omega))
  have hb2 := hb'.off ho (nf _ (by omega) (by omega) (by omega) (by omega)) (nf _ (by omega) (by omega) (by omega) (by omega))
  obtain ⟨ga, aT, aA, af, ac, ac2, ax⟩ := ha2.out
  obtain ⟨g2, iT, iA⟩ := id hw2
  refine lv_iload hx hb dS_addFilled_10 (lv_at hl 0 rfl) ?_
  refine lv_iload_n hx hb dS_addFilled_12 rfl (lv_at hl 4 rfl) ?_
  refine lv_icmp_ge (tgt := 102) hx hb dS_addFilled_13 (by decide) (fun hq => ?_) (fun hq => ?_)
  · have hq : b ≤ r := (nI_leI (by omega) (by omega)).mp hq
    have : r = b := by omega
    subst this
    rw [pt_rest0] at heq
    have heq : M' ++ [] = _ := heq
    rw [List.append_nil] at heq
    exact ct_vret hE hI hr hk ⟨rfl, ho, by rw [← heq]; exact hS2⟩ (by decide) (by decide) dS_addFilled_102
  · have hq : r < b := Nat.lt_of_not_le (fun h => hq (nI_le h (by omega)))
    obtain ⟨x, e1, m1⟩ := pt_at (show r < A.length by omega)
    have b1 := ax x m1
    have hu2 := hub.1
    have hmul : 2000 * (r + 1 - a) = 2000 * (r - a) + 2000 := by omega
    rw [pt_rest e1 hq, show ∀ P Q, pt_fill (x :: P) Q u = tm_gf (fun k => tm_fl 0 1 (tm_gr k) Q ([], 0)) x u.2 ++ pt_fill P Q (tm_wk 0 1 u x) from fun P Q => tm_fl_cons ..] at heq
    obtain ⟨gm, mT, mA, mf⟩ := id hS2.2.1
    refine lv_aload_n hx hb dS_addFilled_16 rfl (lv_at hl 2 rfl) ?_
    refine mp_getN hE.1 hI aT rfl gx_T 0 (by decide) (ct_nw hE (q := ("BindingBench$Workshop", 59, "BindingBench$Term", "cells", "[I")) (by decide +kernel)) rfl dS_addFilled_17 ?_
    refine lv_iload hx hb dS_addFilled_20 (lv_at hl 0 rfl) ?_
    refine mp_ild hE.1 hI aA 0 rfl (vp_in_nI (by omega) (by omega)) dS_addFilled_22 ?_
    rw [nI_clamp (by omega), af r x e1]
    refine lv_istore hx hb dS_addFilled_23 hl (by decide) rfl (fun ls hl => ?_)
    refine lv_bipush (v := nI 100) hx hb dS_addFilled_25 (by decide) ?_
    refine lv_aload_n hx hb dS_addFilled_27 rfl (lv_at hl 2 rfl) ?_
    refine mp_get hE.1 hI hS2.1 rfl gx_S 3 (by decide) (List.mem_cons_of_mem _ gf_S32) rfl dS_addFilled_28 ?_
    refine mp_getN hE.1 hI iT rfl gx_W 4 (by decide) (ct_nw hE (q := ("BindingBench$Workshop", 63, "BindingBench$Walk", "count", "I")) (by decide +kernel)) rfl dS_addFilled_31 ?_
    refine lv_iadd hx hb dS_addFilled_34 ?_
    rw [nI_add]
    refine lv_istore hx hb dS_addFilled_35 hl (by decide) rfl (fun ls hl => ?_)
    refine lv_iload hx hb dS_addFilled_37 (lv_at hl 1 rfl) ?_
    refine lv_iload hx hb dS_addFilled_39 (lv_at hl 0 rfl) ?_
    have after : ∀ (w3 : mp_W) (M3 : List Int) (H : Heap) (locs : List Loc) (ls : Array Slot), M3.length ≤ M'.length + 2000 → M3 ++ pt_fill ((A.drop (r + 1)).take (b - (r + 1))) ((B.drop c).take (d - c)) (tm_wk 0 1 u x) = M ++ pt_fill ((A.drop a).take (b - a)) ((B.drop c).take (d - c)) ([], 0) → mp_off (fp_F f mi) w w3 → pt_S K w3 f mi M3 → pt_W K w3 (f 7) (f 8) 0 1 u → mp_I D cl_all (mp_A w s.heap.size) s.heap w3 H locs →
        lv_has ls 10 [(9, .int (nI (100 + u.2))), (8, .int (ci_i x)), (7, .int (nI r)), (0, .ref (f 2)), (1, .ref (f (13 + 2 * i))), (2, .int (nI a)), (3, .int (nI b)), (4, .ref (f (13 + 2 * j))), (5, .int (nI c)), (6, .int (nI d))] → W p l e { frames := 3, cells := 0, slots := 0, locals := 150 } s m ([Value.ref (f 2), .ref (f (13 + 2 * i)), .int (nI a), .int (nI b), .ref (f (13 + 2 * j)), .int (nI c), .int (nI d)] : List Value).toArray below meth c' H locs 0 0 (MQ below (ct_Q D w s.heap.size (fun v w' => v = none ∧ mp_off (fp_F f mi) w w' ∧ pt_S K w' f mi (M ++ pt_fill ((A.drop a).take (b - a)) ((B.drop c).take (d - c)) ([], 0)))) ([Value.ref (f 2), .ref (f (13 + 2 * i)), .int (nI a), .int (nI b), .ref (f (13 + 2 * j)), .int (nI c), .int (nI d)] : List Value).toArray s 0 0 (mp_A w s.heap.size)) (F0 m 87 ls []) := by
      intro w3 M3 H locs ls hM3 heq3 ho3 hS3 hw3 hI hl
      obtain ⟨g3, iT3, iA3⟩ := id hw3
      refine lv_aload_n hx hb dS_addFilled_87 rfl (lv_at hl 3 rfl) ?_
      refine mp_get hE.1 hI hS3.1 rfl gx_S 3 (by decide) (List.mem_cons_of_mem _ gf_S32) rfl dS_addFilled_88 ?_
      refine lv_iload hx hb dS_addFilled_91 (lv_at hl 1 rfl) ?_
      refine ct_V (n := 1) hE hI (kW_pass (x := x) hw3 b1 (by omega)) iT3 rfl gm_S66 gi_W_pass gs_W_W_pass gz_W gc_W_pass (by decide +kernel) ⟨Nat.le_of_ble_eq_true rfl, Nat.le_of_ble_eq_true rfl⟩ rfl hl.1 rfl (Nat.le_of_ble_eq_true rfl) dS_addFilled_93 ⟨Nat.le_of_ble_eq_true rfl, Nat.le_of_ble_eq_true rfl⟩ (fun v w4 H locs hq hI => ?_)
      obtain ⟨rfl, ho4, hw4⟩ := hq
      show W _ _ _ _ _ _ _ _ _ _ _ _ _ _ _ (F0 _ _ _ [])
      refine lv_iinc (k := 2) (v := nI (r + 1)) hx hb dS_addFilled_96 hl rfl (nI_1 r) (by decide) rfl (fun ls hl => ?_)
      refine lv_goto (tgt := 10) hx hb dS_addFilled_99 (by decide) ?_
      have hl := lv_sub hl [0, 3, 4, 5, 6, 7, 8, 9] rfl
      exact ih (b - (r + 1)) ls w4 H locs (by omega) ⟨r + 1, tm_wk 0 1 u x, M3, rfl, by omega, by omega, by omega, hub.wk (by omega) (by omega) x, heq3, hl, ho3.tr (sub1 ho4), hS3.bin hf hm ho4 ⟨_, hw4⟩, hw4, hI⟩
    have wkeep : ∀ {w3 : mp_W}, mp_off (fp_R f mi) w2 w3 → pt_W K w3 (f 7) (f 8) 0 1 u := fun h => hw2.off h (nr _ (by omega) (by omega) (by omega) (by omega) (by omega)) (nr _ (by omega) (by omega) (by omega) (by omega) (by omega))
    refine lv_icmp_ne (tgt := 64) hx hb dS_addFilled_41 (by decide) (fun hy => ?_) (fun hy => ?_)
    · have hy : ¬ x = ((100 + u.2 : Nat) : Int) := fun q => hy (by rw [q, ci_nat])
      refine lv_aload_n hx hb dS_addFilled_64 rfl (lv_at hl 3 rfl) ?_
      refine mp_get hE.1 hI hS2.1 rfl gx_S 0 (by decide) (List.mem_cons_of_mem _ gf_S14) rfl dS_addFilled_65 ?_
      refine lv_iload hx hb dS_addFilled_68 (lv_at hl 1 rfl) ?_
      refine lv_iload hx hb dS_addFilled_70 (lv_at hl 0 rfl) ?_
      have adding : ∀ z, tm_gf (fun k => tm_fl 0 1 (tm_gr k) ((B.drop c).take (d - c)) ([], 0)) x u.2 = [z] → W p l e { frames := 3, cells := 0, slots := 0, locals := 150 } s m ([Value.ref (f 2), .ref (f (13 + 2 * i)), .int (nI a), .int (nI b), .ref (f (13 + 2 * j)), .int (nI c), .int (nI d)] : List Value).toArray below meth c' H locs 0 0 (MQ below (ct_Q D w s.heap.size (fun v w' => v = none ∧ mp_off (fp_F f mi) w w' ∧ pt_S K w' f mi (M ++ pt_fill ((A.drop a).take (b - a)) ((B.drop c).take (d - c)) ([], 0)))) ([Value.ref (f 2), .ref (f (13 + 2 * i)), .int (nI a), .int (nI b), .ref (f (13 + 2 * j)), .int (nI c), .int (nI d)] : List Value).toArray s 0 0 (mp_A w s.heap.size)) (F0 m 84 ls [.int (ci_i z), .ref (f (13 + 2 * mi))]) := by
        intro z hz
        refine ct_V (n := 1) hE hI (kT_add (z := z) hS2.2.1 (by decide) (by omega)) mT rfl gm_S41 gi_T_add gs_T_T_add gz_T gc_T_add (by decide +kernel) ⟨Nat.le_of_ble_eq_true rfl, Nat.le_of_ble_eq_true rfl⟩ rfl hl.1 rfl (Nat.le_of_ble_eq_true rfl) dS_addFilled_84 ⟨Nat.le_of_ble_eq_true rfl, Nat.le_of_ble_eq_true rfl⟩ (fun v w3 H locs hq hI => ?_)
        obtain ⟨rfl, ho3, hp3⟩ := hq
        refine after w3 (M' ++ [z]) H locs ls (by rw [List.length_append]; show M'.length + 1 ≤ _; omega) ?_ (ho.tr (sub2 ho3)) (hS2.made hf hm ho3 hp3) (hw2.off ho3 (nm _ (by omega) (by omega) (by omega)) (nm _ (by omega) (by omega) (by omega))) hI hl
        rw [← heq, hz, List.append_assoc]
      refine lv_icmp_le (tgt := 82) hx hb dS_addFilled_72 (by decide) (fun hz => ?_) (fun hz => ?_)
      · have hz : x ≤ ((100 + u.2 : Nat) : Int) := by
          rw [← ci_nat] at hz
          exact (ci_le (by omega) (by omega)).mp hz
        refine lv_iload hx hb dS_addFilled_82 (lv_at hl 1 rfl) ?_
        exact adding x (by unfold tm_gf; rw [if_neg (by omega), if_neg (by omega)])
      · have hz : ((100 + u.2 : Nat) : Int) < x := by
          rw [← ci_nat] at hz
          have : ¬ x ≤ ((100 + u.2 : Nat) : Int) := fun q => hz ((ci_le (by omega) (by omega)).mpr q)
          omega
        refine lv_iload hx hb dS_addFilled_75 (lv_at hl 1 rfl) ?_
        refine lv_iconst (v := 1) hx hb dS_addFilled_77 (by decide) ?_
        refine lv_isub hx hb dS_addFilled_78 ?_
        rw [ci_1, ci_sub]
        refine lv_goto (tgt := 84) hx hb dS_addFilled_79 (by decide) ?_
        exact adding (x - 1) (by unfold tm_gf; rw [if_neg (by omega), if_pos (by omega)])
    · have hy : x = ((100 + u.2 : Nat) : Int) := by
        rw [← ci_nat] at hy
        exact (ci_eq (by omega) (by omega)).mp hy
      refine lv_aload_n hx hb dS_addFilled_44 rfl (lv_at hl 3 rfl) ?_
      refine lv_aload hx hb dS_addFilled_45 (lv_at hl 7 rfl) ?_
      refine lv_iload hx hb dS_addFilled_47 (lv_at hl 8 rfl) ?_
      refine lv_iload hx hb dS_addFilled_49 (lv_at hl 9 rfl) ?_
      refine lv_aload_n hx hb dS_addFilled_51 rfl (lv_at hl 3 rfl) ?_
      refine mp_get hE.1 hI hS2.1 rfl gx_S 3 (by decide) (List.mem_cons_of_mem _ gf_S32) rfl dS_addFilled_52 ?_
      refine mp_getN hE.1 hI iT rfl gx_W 4 (by decide) (ct_nw hE (q := ("BindingBench$Workshop", 63, "BindingBench$Walk", "count", "I")) (by decide +kernel)) rfl dS_addFilled_55 ?_
      refine ct_V (n := 4) hE hI (kS_addRaised (a := c) (b := d) (mo := u.2) hf hm hS2 hj hjm hb2 hcd hdB (by omega) (by omega)) hS2.1 rfl gm_S105 gi_S_addRaised gs_S_S_addRaised gz_S gc_S_addRaised (by decide +kernel) ⟨Nat.le_of_ble_eq_true rfl, Nat.le_of_ble_eq_true rfl⟩ rfl hl.1 rfl (Nat.le_of_ble_eq_true rfl) dS_addFilled_58 ⟨Nat.le_of_ble_eq_true rfl, Nat.le_of_ble_eq_true rfl⟩ (fun v w3 H locs hq hI => ?_)
      obtain ⟨rfl, ho3, hS3⟩ := hq
      show W _ _ _ _ _ _ _ _ _ _ _ _ _ _ _ (F0 _ _ _ [])
      refine lv_goto (tgt := 87) hx hb dS_addFilled_61 (by decide) ?_
      refine after w3 _ H locs ls ?_ ?_ (ho.tr (sub3 ho3)) hS3 (wkeep ho3) hI hl
      · rw [List.length_append, tm_fl_len1, hPl]; omega
      · rw [← heq, List.append_assoc]
        unfold tm_gf
        rw [if_pos (by omega)]
end KS4
end
section
/-! Workshop: close, replace -/
theorem tm_fl_lenb (n : Int) (P : List Int) : ∀ u, (tm_fl 0 1 (tm_gb n) P u).length = P.length := by
  induction P with
  | nil => intro u; rfl
  | cons x P ih => intro u; rw [tm_fl_cons, List.length_append, ih, List.length_cons]; show 1 + _ = _; omega
section KS5
variable {l : Launch} {n0 : Nat} {D : va_G} {K : Nat → ClassId} {w : mp_W} {f : Nat → Nat} {mi : Nat}
theorem pt_S.clear {w1 : mp_W} {M : List Int} {g : Nat → Int32} {n : Int32} (h : pt_S K w f mi M) (hf : ph_i f) (hm : mi = 16 ∨ mi = 17) (kA : w (f (14 + 2 * mi)) = some (ob_I K 2000 g)) (hw1 : w1 = mp_up w (f (13 + 2 * mi)) (ob_T (f (14 + 2 * mi)) 0)) : pt_S K w1 f mi [] ∧ mp_off [f (13 + 2 * mi), f (14 + 2 * mi)] w w1 := by
  have ho1 : mp_off [f (13 + 2 * mi), f (14 + 2 * mi)] w w1 := by rw [hw1]; exact (mp_off.rf _ _).up (by simp) _
  have hp1 : pt_T K w1 (f (13 + 2 * mi)) (f (14 + 2 * mi)) 2000 [] := ⟨g, by rw [hw1]; exact mp_up_self .., by rw [hw1, mp_up_ne _ _ (hf.ne (by omega) (by omega) (by omega))]; exact kA, fun _ a x h => by simp at h⟩
  exact ⟨h.made hf hm ho1 hp1, ho1⟩
set_option maxRecDepth 100000 in
theorem kS_close (hl0 : l.stackTraces = false) {i ci : Nat} {n : Int} {M A : List Int} (hf : ph_i f) (hm : mi = 16 ∨ mi = 17) (hS : pt_S K w f mi M) (hi : i < 18) (him : i ≠ mi) (ha : pt_R K w (f (13 + 2 * i)) (f (14 + 2 * i)) ci A) (hn0 : 0 ≤ n) (hn9 : n ≤ 99) (hres : ∀ x ∈ (-2 :: tm_fl 0 1 (tm_gb n) A ([], 0)), -2 ≤ x ∧ x ≤ 1000000) :
    ct_X l n0 D K yS_close (Cond.code yS_close cS_close 5 (some (.object "BindingBench$Term"))) 7 180 1 6 [.ref (f 2), .ref (f (13 + 2 * i)), .int (ci_i n)] w (fun v w' => v = some (.ref (f (13 + 2 * mi))) ∧ ¬ pt_bad (-2 :: tm_fl 0 1 (tm_gb n) A ([], 0)) ∧ mp_off (fp_S f mi) w w' ∧ pt_S K w' f mi (-2 :: tm_fl 0 1 (tm_gb n) A ([], 0))) (fun E w' => E = "java/lang/IllegalStateException" ∧ pt_bad (-2 :: tm_fl 0 1 (tm_gb n) A ([], 0)) ∧ mp_off (fp_S f mi) w w' ∧ ∃ M', pt_S K w' f mi M') := by
  have hA2 : A.length ≤ 2000 := Nat.le_trans ha.2.1 ha.2.2.1
  have nm : ∀ x, x < 49 → x ≠ 13 + 2 * mi → x ≠ 14 + 2 * mi → f x ∉ [f (13 + 2 * mi), f (14 + 2 * mi)] := fun x h q1 q2 => hf.nin h [13 + 2 * mi, 14 + 2 * mi] (by intro b hb; simp at hb; omega)
  have nf : ∀ x, 12 < x → x < 49 → x ≠ 13 + 2 * mi → x ≠ 14 + 2 * mi → f x ∉ fp_S f mi := fun x h0 h q3 q4 => hf.nin h [5, 6, 7, 8, 9, 10, 13 + 2 * mi, 14 + 2 * mi] (by intro b hb; simp at hb; omega)
  have sub2 : ∀ {x y : mp_W}, mp_off [f (13 + 2 * mi), f (14 + 2 * mi)] x y → mp_off (fp_S f mi) x y := fun h => h.mono (fun q hq => by simp at hq ⊢; omega)
  have sub1 : ∀ {x y : mp_W}, mp_off [f 5, f 6] x y → mp_off (fp_S f mi) x y := fun h => h.mono (fun q hq => by simp at hq ⊢; omega)
  have sub7 : ∀ {x y : mp_W}, mp_off [f 7, f 8] x y → mp_off (fp_S f mi) x y := fun h => h.mono (fun q hq => by simp at hq ⊢; omega)
  obtain ⟨g, kT, kA, kf⟩ := id hS.2.1
  refine ct_goX (own := nm_S) (by decide) rfl (Nat.le_of_ble_eq_true rfl) ?_
  intro p e s m below meth c ls hE hI hr hk hout hl
  have hx := hE.1.1.1
  have hb := hE.1.1.2.1
  have hl : lv_has ls 5 [(0, .ref (f 2)), (1, .ref (f (13 + 2 * i))), (2, .int (ci_i n))] := hl
  refine lv_aload_n hx hb dS_close_0 rfl (lv_at hl 0 rfl) ?_
  refine mp_get hE.1 hI hS.1 rfl gx_S 0 (by decide) (List.mem_cons_of_mem _ gf_S14) rfl dS_close_1 ?_
  refine ct_V (n := 0) hE hI (kT_clear kT) kT rfl gm_S38 gi_T_clear gs_T_T_clear gz_T gc_T_clear (by decide +kernel) ⟨Nat.le_of_ble_eq_true rfl, Nat.le_of_ble_eq_true rfl⟩ rfl hl.1 rfl (Nat.le_of_ble_eq_true rfl) dS_close_4 ⟨Nat.le_of_ble_eq_true rfl, Nat.le_of_ble_eq_true rfl⟩ (fun v w1 H locs hq hI => ?_)
  obtain ⟨rfl, hw1⟩ := hq
  obtain ⟨hS1, ho1⟩ := hS.clear (n := 0) hf hm kA hw1
  clear hw1
  show W _ _ _ _ _ _ _ _ _ _ _ _ _ _ _ (F0 _ _ _ [])
  obtain ⟨g1, kT1, kA1, kf1⟩ := id hS1.2.1
  refine lv_aload_n hx hb dS_close_7 rfl (lv_at hl 0 rfl) ?_
  refine mp_get hE.1 hI hS1.1 rfl gx_S 0 (by decide) (List.mem_cons_of_mem _ gf_S14) rfl dS_close_8 ?_
  refine lv_bipush (v := ci_i (-2)) hx hb dS_close_11 (by decide) ?_
  refine ct_V (n := 1) hE hI (kT_add (z := -2) hS1.2.1 (by decide) (by simp)) kT1 rfl gm_S41 gi_T_add gs_T_T_add gz_T gc_T_add (by decide +kernel) ⟨Nat.le_of_ble_eq_true rfl, Nat.le_of_ble_eq_true rfl⟩ rfl hl.1 rfl (Nat.le_of_ble_eq_true rfl) dS_close_13 ⟨Nat.le_of_ble_eq_true rfl, Nat.le_of_ble_eq_true rfl⟩ (fun v w2 H locs hq hI => ?_)
  obtain ⟨rfl, ho2, hp2⟩ := hq
  have hS2 := hS1.made hf hm ho2 hp2
  show W _ _ _ _ _ _ _ _ _ _ _ _ _ _ _ (F0 _ _ _ [])
  obtain ⟨u0, hw0⟩ := id hS2.2.2.2.1
  obtain ⟨gw, iT, iA⟩ := id hw0
  refine lv_aload_n hx hb dS_close_16 rfl (lv_at hl 0 rfl) ?_
  refine mp_get hE.1 hI hS2.1 rfl gx_S 3 (by decide) (List.mem_cons_of_mem _ gf_S32) rfl dS_close_17 ?_
  refine ct_V (n := 0) hE hI (kW_start hw0) iT rfl gm_S56 gi_W_start gs_W_W_start gz_W gc_W_start (by decide +kernel) ⟨Nat.le_of_ble_eq_true rfl, Nat.le_of_ble_eq_true rfl⟩ rfl hl.1 rfl (Nat.le_of_ble_eq_true rfl) dS_close_20 ⟨Nat.le_of_ble_eq_true rfl, Nat.le_of_ble_eq_true rfl⟩ (fun v w3 H locs hq hI => ?_)
  obtain ⟨rfl, ho3, hw3⟩ := hq
  have hS3 := hS2.bin hf hm ho3 ⟨_, hw3⟩
  show W _ _ _ _ _ _ _ _ _ _ _ _ _ _ _ (F0 _ _ _ [])
  refine lv_iconst (v := 0) hx hb dS_close_23 (by decide) ?_
  refine lv_istore_n hx hb dS_close_24 rfl hl (by decide) rfl (fun ls hl => ?_)
  refine lp_4 (G := fun ls w2 H locs => W p l e _ s m _ below meth c H locs 0 0 _ (F0 m 25 ls [])) (I := fun k ls w2 H locs => ∃ r u M', k = A.length - r ∧ r ≤ A.length ∧ M'.length = r + 1 ∧ pt_ub u r ∧ M' ++ tm_fl 0 1 (tm_gb n) (A.drop r) u = -2 :: tm_fl 0 1 (tm_gb n) A ([], 0) ∧ lv_has ls 5 [(3, .int (nI r)), (0, .ref (f 2)), (1, .ref (f (13 + 2 * i))), (2, .int (ci_i n))] ∧ mp_off (fp_S f mi) w w2 ∧ pt_S K w2 f mi M' ∧ pt_W K w2 (f 7) (f 8) 0 1 u ∧ mp_I D cl_all (mp_A w s.heap.size) s.heap w2 H locs) ?_ (A.length - 0) ls w3 H locs ⟨0, ([], 0), [] ++ [-2], rfl, by omega, by simp, pt_ub0, rfl, hl, ((sub2 ho1).tr (sub2 ho2)).tr (sub7 ho3), hS3, hw3, hI⟩
  clear hl hI ho1 ho2 ho3 hw3 hw0 iT iA hS1 hS2 hS3 kT1 kA1 kf1 hp2
  intro k ls w2 H locs hk0 ih
  obtain ⟨r, u, M', rfl, hrb, hM', hub, heq, hl, ho, hS2, hw2, hI⟩ := hk0
  obtain ⟨ga, aT, aA, af, ac, ac2, ax⟩ := (ha.off ho (nf _ (by omega) (by omega) (by omega) (by omega)) (nf _ (by omega) (by omega) (by omega) (by omega))).out
  obtain ⟨g2, iT, iA⟩ := id hw2
  refine lv_iload_n hx hb dS_close_25 rfl (lv_at hl 0 rfl) ?_
  refine lv_aload_n hx hb dS_close_26 rfl (lv_at hl 2 rfl) ?_
  refine mp_getN hE.1 hI aT rfl gx_T 1 (by decide) (ct_nw hE (q := ("BindingBench$Workshop", 44, "BindingBench$Term", "size", "I")) (by decide +kernel)) rfl dS_close_27 ?_
  refine lv_icmp_ge (tgt := 84) hx hb dS_close_30 (by decide) (fun hq => ?_) (fun hq => ?_)
  · have hq : A.length ≤ r := (nI_leI (by omega) (by omega)).mp hq
    have : r = A.length := by omega
    subst this
    rw [List.drop_length] at heq
    have heq : M' ++ [] = _ := heq
    rw [List.append_nil] at heq
    subst heq
    refine lv_aload_n hx hb dS_close_84 rfl (lv_at hl 1 rfl) ?_
    obtain ⟨u4, hw4⟩ := hS2.2.2.1
    refine ct_VX (n := 0) hE hI (kS_checked hl0 hf hm hS2.1 hS2.2.1 (by rw [List.length_cons, tm_fl_lenb]; omega) (fun _ => hres) hw4) hS2.1 rfl gm_S52 gi_S_checked gs_S_S_checked gz_S gc_S_checked (by decide +kernel) ⟨Nat.le_of_ble_eq_true rfl, Nat.le_of_ble_eq_true rfl⟩ rfl hl.1 rfl (Nat.le_of_ble_eq_true rfl) dS_close_85 ⟨Nat.le_of_ble_eq_true rfl, Nat.le_of_ble_eq_true rfl⟩ (fun v w5 H locs hq hI => ?_) (fun E q ce w5 H locs ht hI hq hv hcl => ?_)
    · obtain ⟨rfl, hn, ho5, hu5⟩ := hq
      exact vx_ret (ct_aret hE hI hr (Or.inl ⟨_, rfl⟩) hk ⟨rfl, hn, ho.tr (sub1 ho5), hS2.lev hf hm ho5 hu5⟩ (by decide) (by decide) dS_close_88)
    · obtain ⟨rfl, hn, ho5, hu5⟩ := ht
      exact ct_out hI hout hk hq hv hcl ⟨rfl, hn, ho.tr (sub1 ho5), _, hS2.lev hf hm ho5 hu5⟩ (by decide) (by decide)
  · have hq : r < A.length := Nat.lt_of_not_le (fun h => hq (nI_le h (by omega)))
    obtain ⟨x, e1, m1⟩ := pt_at hq
    have b1 := ax x m1
    have hu2 := hub.1
    rw [pt_drop e1, tm_fl_cons] at heq
    obtain ⟨gm, mT, mA, mf⟩ := id hS2.2.1
    refine lv_aload_n hx hb dS_close_33 rfl (lv_at hl 2 rfl) ?_
    refine mp_getN hE.1 hI aT rfl gx_T 0 (by decide) (ct_nw hE (q := ("BindingBench$Workshop", 59, "BindingBench$Term", "cells", "[I")) (by decide +kernel)) rfl dS_close_34 ?_
    refine lv_iload_n hx hb dS_close_37 rfl (lv_at hl 0 rfl) ?_
    refine mp_ild hE.1 hI aA 0 rfl (vp_in_nI (by omega) (by omega)) dS_close_38 ?_
    rw [nI_clamp (by omega), af r x e1]
    refine lv_istore hx hb dS_close_39 hl (by decide) rfl (fun ls hl => ?_)
    refine lv_aload_n hx hb dS_close_41 rfl (lv_at hl 2 rfl) ?_
    refine mp_get hE.1 hI hS2.1 rfl gx_S 0 (by decide) (List.mem_cons_of_mem _ gf_S14) rfl dS_close_42 ?_
    refine lv_iload hx hb dS_close_45 (lv_at hl 0 rfl) ?_
    refine lv_iload_n hx hb dS_close_47 rfl (lv_at hl 4 rfl) ?_
    have adding : ∀ z, tm_gb n x u.2 = [z] → ∀ ls, lv_has ls 5 [(4, .int (ci_i x)), (3, .int (nI r)), (0, .ref (f 2)), (1, .ref (f (13 + 2 * i))), (2, .int (ci_i n))] → W p l e { frames := 7, cells := 1, slots := 6, locals := 180 } s m ([Value.ref (f 2), .ref (f (13 + 2 * i)), .int (ci_i n)] : List Value).toArray below meth c H locs 0 0 (vx_MQ below (ct_Q D w s.heap.size (fun v w' => v = some (.ref (f (13 + 2 * mi))) ∧ ¬ pt_bad (-2 :: tm_fl 0 1 (tm_gb n) A ([], 0)) ∧ mp_off (fp_S f mi) w w' ∧ pt_S K w' f mi (-2 :: tm_fl 0 1 (tm_gb n) A ([], 0)))) (ct_C D w s.heap.size (fun E w' => E = "java/lang/IllegalStateException" ∧ pt_bad (-2 :: tm_fl 0 1 (tm_gb n) A ([], 0)) ∧ mp_off (fp_S f mi) w w' ∧ ∃ M', pt_S K w' f mi M')) ([Value.ref (f 2), .ref (f (13 + 2 * i)), .int (ci_i n)] : List Value).toArray s 1 6 (mp_A w s.heap.size)) (F0 m 66 ls [.int (ci_i z), .ref (f (13 + 2 * mi))]) := by
      intro z hz ls hl
      refine ct_V (n := 1) hE hI (kT_add (z := z) hS2.2.1 (by decide) (by omega)) mT rfl gm_S41 gi_T_add gs_T_T_add gz_T gc_T_add (by decide +kernel) ⟨Nat.le_of_ble_eq_true rfl, Nat.le_of_ble_eq_true rfl⟩ rfl hl.1 rfl (Nat.le_of_ble_eq_true rfl) dS_close_66 ⟨Nat.le_of_ble_eq_true rfl, Nat.le_of_ble_eq_true rfl⟩ (fun v w3 H locs hq hI => ?_)
      obtain ⟨rfl, ho3, hp3⟩ := hq
      have hS3 := hS2.made hf hm ho3 hp3
      have hw3 : pt_W K w3 (f 7) (f 8) 0 1 u := hw2.off ho3 (nm _ (by omega) (by omega) (by omega)) (nm _ (by omega) (by omega) (by omega))
      obtain ⟨g3, iT3, iA3⟩ := id hw3
      show W _ _ _ _ _ _ _ _ _ _ _ _ _ _ _ (F0 _ _ _ [])
      refine lv_aload_n hx hb dS_close_69 rfl (lv_at hl 2 rfl) ?_
      refine mp_get hE.1 hI hS3.1 rfl gx_S 3 (by decide) (List.mem_cons_of_mem _ gf_S32) rfl dS_close_70 ?_
      refine lv_iload hx hb dS_close_73 (lv_at hl 0 rfl) ?_
      refine ct_V (n := 1) hE hI (kW_pass (x := x) hw3 b1 (by omega)) iT3 rfl gm_S66 gi_W_pass gs_W_W_pass gz_W gc_W_pass (by decide +kernel) ⟨Nat.le_of_ble_eq_true rfl, Nat.le_of_ble_eq_true rfl⟩ rfl hl.1 rfl (Nat.le_of_ble_eq_true rfl) dS_close_75 ⟨Nat.le_of_ble_eq_true rfl, Nat.le_of_ble_eq_true rfl⟩ (fun v w4 H locs hq hI => ?_)
      obtain ⟨rfl, ho4, hw4⟩ := hq
      show W _ _ _ _ _ _ _ _ _ _ _ _ _ _ _ (F0 _ _ _ [])
      refine lv_iinc (k := 1) (v := nI (r + 1)) hx hb dS_close_78 hl rfl (nI_1 r) (by decide) rfl (fun ls hl => ?_)
      refine lv_goto (tgt := 25) hx hb dS_close_81 (by decide) ?_
      have hl := lv_sub hl [0, 2, 3, 4] rfl
      refine ih (A.length - (r + 1)) ls w4 H locs (by omega) ⟨r + 1, tm_wk 0 1 u x, M' ++ [z], rfl, by omega, by rw [List.length_append]; show M'.length + 1 = _; omega, hub.wk (by omega) (by omega) x, ?_, hl, (ho.tr (sub2 ho3)).tr (sub7 ho4), hS3.bin hf hm ho4 ⟨_, hw4⟩, hw4, hI⟩
      rw [← heq, hz, List.append_assoc]
    refine lv_icmp_ne (tgt := 64) hx hb dS_close_48 (by decide) (fun hy => ?_) (fun hy => ?_)
    · have hy : ¬ x = n := fun q => hy (by rw [q])
      refine lv_iload hx hb dS_close_64 (lv_at hl 0 rfl) ?_
      exact adding x (by unfold tm_gb; rw [if_neg hy]) ls hl
    · have hy : x = n := (ci_eq (by omega) (by omega)).mp hy
      refine lv_bipush (v := nI 100) hx hb dS_close_51 (by decide) ?_
      refine lv_aload_n hx hb dS_close_53 rfl (lv_at hl 2 rfl) ?_
      refine mp_get hE.1 hI hS2.1 rfl gx_S 3 (by decide) (List.mem_cons_of_mem _ gf_S32) rfl dS_close_54 ?_
      refine mp_getN hE.1 hI iT rfl gx_W 4 (by decide) (ct_nw hE (q := ("BindingBench$Workshop", 63, "BindingBench$Walk", "count", "I")) (by decide +kernel)) rfl dS_close_57 ?_
      refine lv_iadd hx hb dS_close_60 ?_
      rw [nI_add, ← ci_nat]
      refine lv_goto (tgt := 66) hx hb dS_close_61 (by decide) ?_
      exact adding _ (by unfold tm_gb; rw [if_pos hy]; rfl) ls hl
end KS5
end
section
/-! Workshop: replace, fill, cut, contract -/
section KS6
variable {l : Launch} {n0 : Nat} {D : va_G} {K : Nat → ClassId} {w : mp_W} {f : Nat → Nat} {mi : Nat}
/-- how a call of the Workshop that makes the row N ends -/
abbrev po_N (K : Nat → ClassId) (f : Nat → Nat) (mi : Nat) (w : mp_W) (N : List Int) : Option Value → mp_W → Prop := fun v w' => v = some (.ref (f (13 + 2 * mi))) ∧ ¬ pt_bad N ∧ mp_off (fp_S f mi) w w' ∧ pt_S K w' f mi N
abbrev th_N (K : Nat → ClassId) (f : Nat → Nat) (mi : Nat) (w : mp_W) (N : List Int) : String → mp_W → Prop := fun E w' => E = "java/lang/IllegalStateException" ∧ pt_bad N ∧ mp_off (fp_S f mi) w w' ∧ ∃ M', pt_S K w' f mi M'
theorem pt_fill_len (La Lb : List Int) : ∀ u, (pt_fill La Lb u).length ≤ La.length * (Lb.length + 1) := by
  induction La with
  | nil => intro u; exact Nat.zero_le _
  | cons x La ih =>
    intro u
    have e : pt_fill (x :: La) Lb u = tm_gf (fun k => tm_fl 0 1 (tm_gr k) Lb ([], 0)) x u.2 ++ pt_fill La Lb (tm_wk 0 1 u x) := tm_fl_cons ..
    rw [e, List.length_append, List.length_cons, Nat.add_mul, Nat.one_mul]
    have h1 := ih (tm_wk 0 1 u x)
    have h2 : (tm_gf (fun k => tm_fl 0 1 (tm_gr k) Lb ([], 0)) x u.2).length ≤ Lb.length + 1 := by
      unfold tm_gf
      split
      · rw [tm_fl_len1]; omega
      · simp
    omega
theorem pt_fill_len2 {La Lb : List Int} (ha : La.length ≤ 2000) (hb : Lb.length ≤ 2000) (u : List Nat × Nat) : (pt_fill La Lb u).length ≤ 4002000 := Nat.le_trans (pt_fill_len La Lb u) (Nat.le_trans (Nat.mul_le_mul ha (Nat.add_le_add_right hb 1)) (by decide))
set_option maxRecDepth 100000 in
theorem kS_replace (hl0 : l.stackTraces = false) {i j ci cj : Nat} {n : Int} {M A B : List Int} (hf : ph_i f) (hm : mi = 16 ∨ mi = 17) (hS : pt_S K w f mi M) (hi : i < 18) (him : i ≠ mi) (hj : j < 18) (hjm : j ≠ mi) (ha : pt_R K w (f (13 + 2 * i)) (f (14 + 2 * i)) ci A) (hb' : pt_R K w (f (13 + 2 * j)) (f (14 + 2 * j)) cj B) (hn0 : 0 ≤ n) (hn9 : n ≤ 99) (hres : ∀ x ∈ A.flatMap (fun x => if x = n then B else [x]), -2 ≤ x ∧ x ≤ 1000000) :
    ct_X l n0 D K yS_replace (Cond.code yS_replace cS_replace 5 (some (.object "BindingBench$Term"))) 7 180 1 6 [.ref (f 2), .ref (f (13 + 2 * i)), .int (ci_i n), .ref (f (13 + 2 * j))] w (po_N K f mi w (A.flatMap (fun x => if x = n then B else [x]))) (th_N K f mi w (A.flatMap (fun x => if x = n then B else [x]))) := by
  have hA2 : A.length ≤ 2000 := Nat.le_trans ha.2.1 ha.2.2.1
  have hB2 : B.length ≤ 2000 := Nat.le_trans hb'.2.1 hb'.2.2.1
  have nf : ∀ x, 12 < x → x < 49 → x ≠ 13 + 2 * mi → x ≠ 14 + 2 * mi → f x ∉ fp_S f mi := fun x h0 h q3 q4 => hf.nin h [5, 6, 7, 8, 9, 10, 13 + 2 * mi, 14 + 2 * mi] (by intro b hb; simp at hb; omega)
  have sub2 : ∀ {x y : mp_W}, mp_off [f (13 + 2 * mi), f (14 + 2 * mi)] x y → mp_off (fp_S f mi) x y := fun h => h.mono (fun q hq => by simp at hq ⊢; omega)
  have sub1 : ∀ {x y : mp_W}, mp_off [f 5, f 6] x y → mp_off (fp_S f mi) x y := fun h => h.mono (fun q hq => by simp at hq ⊢; omega)
  obtain ⟨g, kT, kA, kf⟩ := id hS.2.1
  refine ct_goX (own := nm_S) (by decide) rfl (Nat.le_of_ble_eq_true rfl) ?_
  intro p e s m below meth c ls hE hI hr hk hout hl
  have hx := hE.1.1.1
  have hb := hE.1.1.2.1
  have hl : lv_has ls 5 [(0, .ref (f 2)), (1, .ref (f (13 + 2 * i))), (2, .int (ci_i n)), (3, .ref (f (13 + 2 * j)))] := hl
  refine lv_aload_n hx hb dS_replace_0 rfl (lv_at hl 0 rfl) ?_
  refine mp_get hE.1 hI hS.1 rfl gx_S 0 (by decide) (List.mem_cons_of_mem _ gf_S14) rfl dS_replace_1 ?_
  refine ct_V (n := 0) hE hI (kT_clear kT) kT rfl gm_S38 gi_T_clear gs_T_T_clear gz_T gc_T_clear (by decide +kernel) ⟨Nat.le_of_ble_eq_true rfl, Nat.le_of_ble_eq_true rfl⟩ rfl hl.1 rfl (Nat.le_of_ble_eq_true rfl) dS_replace_4 ⟨Nat.le_of_ble_eq_true rfl, Nat.le_of_ble_eq_true rfl⟩ (fun v w1 H locs hq hI => ?_)
  obtain ⟨rfl, hw1⟩ := hq
  obtain ⟨hS1, ho1⟩ := hS.clear (n := 0) hf hm kA hw1
  clear hw1
  show W _ _ _ _ _ _ _ _ _ _ _ _ _ _ _ (F0 _ _ _ [])
  refine lv_iconst (v := 0) hx hb dS_replace_7 (by decide) ?_
  refine lv_istore hx hb dS_replace_8 hl (by decide) rfl (fun ls hl => ?_)
  refine lp_4 (G := fun ls w2 H locs => W p l e _ s m _ below meth c H locs 0 0 _ (F0 m 10 ls [])) (I := fun k ls w2 H locs => ∃ r M', k = A.length - r ∧ r ≤ A.length ∧ M'.length ≤ 2000 * r ∧ M' ++ (A.drop r).flatMap (fun x => if x = n then B else [x]) = A.flatMap (fun x => if x = n then B else [x]) ∧ lv_has ls 5 [(4, .int (nI r)), (0, .ref (f 2)), (1, .ref (f (13 + 2 * i))), (2, .int (ci_i n)), (3, .ref (f (13 + 2 * j)))] ∧ mp_off (fp_S f mi) w w2 ∧ pt_S K w2 f mi M' ∧ mp_I D cl_all (mp_A w s.heap.size) s.heap w2 H locs) ?_ (A.length - 0) ls w1 H locs ⟨0, [], rfl, by omega, by simp, rfl, hl, sub2 ho1, hS1, hI⟩
  clear hl hI ho1 hS1
  intro k ls w2 H locs hk0 ih
  obtain ⟨r, M', rfl, hrb, hM', heq, hl, ho, hS2, hI⟩ := hk0
  obtain ⟨ga, aT, aA, af, ac, ac2, ax⟩ := (ha.off ho (nf _ (by omega) (by omega) (by omega) (by omega)) (nf _ (by omega) (by omega) (by omega) (by omega))).out
  obtain ⟨gb, bT, bA, bf, bc, bc2, bx⟩ := (hb'.off ho (nf _ (by omega) (by omega) (by omega) (by omega)) (nf _ (by omega) (by omega) (by omega) (by omega))).out
  refine lv_iload hx hb dS_replace_10 (lv_at hl 0 rfl) ?_
  refine lv_aload_n hx hb dS_replace_12 rfl (lv_at hl 2 rfl) ?_
  refine mp_getN hE.1 hI aT rfl gx_T 1 (by decide) (ct_nw hE (q := ("BindingBench$Workshop", 44, "BindingBench$Term", "size", "I")) (by decide +kernel)) rfl dS_replace_13 ?_
  refine lv_icmp_ge (tgt := 66) hx hb dS_replace_16 (by decide) (fun hq => ?_) (fun hq => ?_)
  · have hq : A.length ≤ r := (nI_leI (by omega) (by omega)).mp hq
    have : r = A.length := by omega
    subst this
    rw [List.drop_length] at heq
    have heq : M' ++ [] = _ := heq
    rw [List.append_nil] at heq
    subst heq
    refine lv_aload_n hx hb dS_replace_66 rfl (lv_at hl 1 rfl) ?_
    obtain ⟨u4, hw4⟩ := hS2.2.2.1
    refine ct_VX (n := 0) hE hI (kS_checked hl0 hf hm hS2.1 hS2.2.1 (by omega) (fun _ => hres) hw4) hS2.1 rfl gm_S52 gi_S_checked gs_S_S_checked gz_S gc_S_checked (by decide +kernel) ⟨Nat.le_of_ble_eq_true rfl, Nat.le_of_ble_eq_true rfl⟩ rfl hl.1 rfl (Nat.le_of_ble_eq_true rfl) dS_replace_67 ⟨Nat.le_of_ble_eq_true rfl, Nat.le_of_ble_eq_true rfl⟩ (fun v w5 H locs hq hI => ?_) (fun E q ce w5 H locs ht hI hq hv hcl => ?_)
    · obtain ⟨rfl, hn, ho5, hu5⟩ := hq
      exact vx_ret (ct_aret hE hI hr (Or.inl ⟨_, rfl⟩) hk ⟨rfl, hn, ho.tr (sub1 ho5), hS2.lev hf hm ho5 hu5⟩ (by decide) (by decide) dS_replace_70)
    · obtain ⟨rfl, hn, ho5, hu5⟩ := ht
      exact ct_out hI hout hk hq hv hcl ⟨rfl, hn, ho.tr (sub1 ho5), _, hS2.lev hf hm ho5 hu5⟩ (by decide) (by decide)
  · have hq : r < A.length := Nat.lt_of_not_le (fun h => hq (nI_le h (by omega)))
    obtain ⟨x, e1, m1⟩ := pt_at hq
    have b1 := ax x m1
    rw [pt_drop e1, List.flatMap_cons] at heq
    obtain ⟨gm, mT, mA, mf⟩ := id hS2.2.1
    refine lv_aload_n hx hb dS_replace_19 rfl (lv_at hl 2 rfl) ?_
    refine mp_getN hE.1 hI aT rfl gx_T 0 (by decide) (ct_nw hE (q := ("BindingBench$Workshop", 59, "BindingBench$Term", "cells", "[I")) (by decide +kernel)) rfl dS_replace_20 ?_
    refine lv_iload hx hb dS_replace_23 (lv_at hl 0 rfl) ?_
    refine mp_ild hE.1 hI aA 0 rfl (vp_in_nI (by omega) (by omega)) dS_replace_25 ?_
    rw [nI_clamp (by omega), af r x e1]
    refine lv_iload_n hx hb dS_replace_26 rfl (lv_at hl 3 rfl) ?_
    refine lv_icmp_ne (tgt := 46) hx hb dS_replace_27 (by decide) (fun hy => ?_) (fun hy => ?_)
    · have hy : ¬ x = n := fun q => hy (by rw [q])
      rw [if_neg hy] at heq
      refine lv_aload_n hx hb dS_replace_46 rfl (lv_at hl 1 rfl) ?_
      refine mp_get hE.1 hI hS2.1 rfl gx_S 0 (by decide) (List.mem_cons_of_mem _ gf_S14) rfl dS_replace_47 ?_
      refine lv_aload_n hx hb dS_replace_50 rfl (lv_at hl 2 rfl) ?_
      refine mp_getN hE.1 hI aT rfl gx_T 0 (by decide) (ct_nw hE (q := ("BindingBench$Workshop", 59, "BindingBench$Term", "cells", "[I")) (by decide +kernel)) rfl dS_replace_51 ?_
      refine lv_iload hx hb dS_replace_54 (lv_at hl 0 rfl) ?_
      refine mp_ild hE.1 hI aA 0 rfl (vp_in_nI (by omega) (by omega)) dS_replace_56 ?_
      rw [nI_clamp (by omega), af r x e1]
      refine ct_V (n := 1) hE hI (kT_add (z := x) hS2.2.1 (by decide) (by omega)) mT rfl gm_S41 gi_T_add gs_T_T_add gz_T gc_T_add (by decide +kernel) ⟨Nat.le_of_ble_eq_true rfl, Nat.le_of_ble_eq_true rfl⟩ rfl hl.1 rfl (Nat.le_of_ble_eq_true rfl) dS_replace_57 ⟨Nat.le_of_ble_eq_true rfl, Nat.le_of_ble_eq_true rfl⟩ (fun v w3 H locs hq hI => ?_)
      obtain ⟨rfl, ho3, hp3⟩ := hq
      show W _ _ _ _ _ _ _ _ _ _ _ _ _ _ _ (F0 _ _ _ [])
      refine lv_iinc (k := 0) (v := nI (r + 1)) hx hb dS_replace_60 hl rfl (nI_1 r) (by decide) rfl (fun ls hl => ?_)
      refine lv_goto (tgt := 10) hx hb dS_replace_63 (by decide) ?_
      refine ih (A.length - (r + 1)) ls w3 H locs (by omega) ⟨r + 1, M' ++ [x], rfl, by omega, by rw [List.length_append]; show M'.length + 1 ≤ _; omega, ?_, hl, ho.tr (sub2 ho3), hS2.made hf hm ho3 hp3, hI⟩
      rw [← heq, List.append_assoc]
    · have hy : x = n := (ci_eq (by omega) (by omega)).mp hy
      rw [if_pos hy] at heq
      refine lv_aload_n hx hb dS_replace_30 rfl (lv_at hl 1 rfl) ?_
      refine mp_get hE.1 hI hS2.1 rfl gx_S 0 (by decide) (List.mem_cons_of_mem _ gf_S14) rfl dS_replace_31 ?_
      refine lv_aload_n hx hb dS_replace_34 rfl (lv_at hl 4 rfl) ?_
      refine lv_iconst (v := nI 0) hx hb dS_replace_35 (by decide) ?_
      refine lv_aload_n hx hb dS_replace_36 rfl (lv_at hl 4 rfl) ?_
      refine mp_getN hE.1 hI bT rfl gx_T 1 (by decide) (ct_nw hE (q := ("BindingBench$Workshop", 44, "BindingBench$Term", "size", "I")) (by decide +kernel)) rfl dS_replace_37 ?_
      refine ct_V (n := 3) hE hI (kT_addAll (a := 0) (b := B.length) hS2.2.1 bT bA bf bc (by omega) (by omega) (by decide) (by omega) (by omega)) mT rfl gm_S48 gi_T_addAll gs_T_T_addAll gz_T gc_T_addAll (by decide +kernel) ⟨Nat.le_of_ble_eq_true rfl, Nat.le_of_ble_eq_true rfl⟩ rfl hl.1 rfl (Nat.le_of_ble_eq_true rfl) dS_replace_40 ⟨Nat.le_of_ble_eq_true rfl, Nat.le_of_ble_eq_true rfl⟩ (fun v w3 H locs hq hI => ?_)
      obtain ⟨rfl, ho3, hp3⟩ := hq
      rw [show List.take (B.length - 0) (List.drop 0 B) = B by simp] at hp3
      show W _ _ _ _ _ _ _ _ _ _ _ _ _ _ _ (F0 _ _ _ [])
      refine lv_goto (tgt := 60) hx hb dS_replace_43 (by decide) ?_
      refine lv_iinc (k := 0) (v := nI (r + 1)) hx hb dS_replace_60 hl rfl (nI_1 r) (by decide) rfl (fun ls hl => ?_)
      refine lv_goto (tgt := 10) hx hb dS_replace_63 (by decide) ?_
      refine ih (A.length - (r + 1)) ls w3 H locs (by omega) ⟨r + 1, M' ++ B, rfl, by omega, by rw [List.length_append]; omega, ?_, hl, ho.tr (sub2 ho3), hS2.made hf hm ho3 hp3, hI⟩
      rw [← heq, List.append_assoc]
set_option maxRecDepth 100000 in
theorem kS_fill (hl0 : l.stackTraces = false) {i j ci cj : Nat} {M A B : List Int} (hf : ph_i f) (hm : mi = 16 ∨ mi = 17) (hS : pt_S K w f mi M) (hi : i < 18) (him : i ≠ mi) (hj : j < 18) (hjm : j ≠ mi) (ha : pt_R K w (f (13 + 2 * i)) (f (14 + 2 * i)) ci A) (hb' : pt_R K w (f (13 + 2 * j)) (f (14 + 2 * j)) cj B) (hA1 : 1 ≤ A.length) (hres : (pt_fill (A.drop 1) B ([], 0)).length ≤ 2000 → ∀ x ∈ pt_fill (A.drop 1) B ([], 0), -2 ≤ x ∧ x ≤ 1000000) :
    ct_X l n0 D K yS_fill (Cond.code yS_fill cS_fill 3 (some (.object "BindingBench$Term"))) 7 200 1 6 [.ref (f 2), .ref (f (13 + 2 * i)), .ref (f (13 + 2 * j))] w (po_N K f mi w (pt_fill (A.drop 1) B ([], 0))) (th_N K f mi w (pt_fill (A.drop 1) B ([], 0))) := by
  have hA2 : A.length ≤ 2000 := Nat.le_trans ha.2.1 ha.2.2.1
  have hB2 : B.length ≤ 2000 := Nat.le_trans hb'.2.1 hb'.2.2.1
  have nf : ∀ x, 12 < x → x < 49 → x ≠ 13 + 2 * mi → x ≠ 14 + 2 * mi → f x ∉ fp_S f mi := fun x h0 h q3 q4 => hf.nin h [5, 6, 7, 8, 9, 10, 13 + 2 * mi, 14 + 2 * mi] (by intro b hb; simp at hb; omega)
  have sub2 : ∀ {x y : mp_W}, mp_off [f (13 + 2 * mi), f (14 + 2 * mi)] x y → mp_off (fp_S f mi) x y := fun h => h.mono (fun q hq => by simp at hq ⊢; omega)
  have sub1 : ∀ {x y : mp_W}, mp_off [f 5, f 6] x y → mp_off (fp_S f mi) x y := fun h => h.mono (fun q hq => by simp at hq ⊢; omega)
  have sub3 : ∀ {x y : mp_W}, mp_off (fp_F f mi) x y → mp_off (fp_S f mi) x y := fun h => h.mono (fun q hq => by simp at hq ⊢; omega)
  obtain ⟨g, kT, kA, kf⟩ := id hS.2.1
  refine ct_goX (own := nm_S) (by decide) rfl (Nat.le_of_ble_eq_true rfl) ?_
  intro p e s m below meth c ls hE hI hr hk hout hl
  have hx := hE.1.1.1
  have hb := hE.1.1.2.1
  have hl : lv_has ls 3 [(0, .ref (f 2)), (1, .ref (f (13 + 2 * i))), (2, .ref (f (13 + 2 * j)))] := hl
  refine lv_aload_n hx hb dS_fill_0 rfl (lv_at hl 0 rfl) ?_
  refine mp_get hE.1 hI hS.1 rfl gx_S 0 (by decide) (List.mem_cons_of_mem _ gf_S14) rfl dS_fill_1 ?_
  refine ct_V (n := 0) hE hI (kT_clear kT) kT rfl gm_S38 gi_T_clear gs_T_T_clear gz_T gc_T_clear (by decide +kernel) ⟨Nat.le_of_ble_eq_true rfl, Nat.le_of_ble_eq_true rfl⟩ rfl hl.1 rfl (Nat.le_of_ble_eq_true rfl) dS_fill_4 ⟨Nat.le_of_ble_eq_true rfl, Nat.le_of_ble_eq_true rfl⟩ (fun v w1 H locs hq hI => ?_)
  obtain ⟨rfl, hw1⟩ := hq
  obtain ⟨hS1, ho1⟩ := hS.clear (n := 0) hf hm kA hw1
  clear hw1
  show W _ _ _ _ _ _ _ _ _ _ _ _ _ _ _ (F0 _ _ _ [])
  have ha1 := ha.off (sub2 ho1) (nf _ (by omega) (by omega) (by omega) (by omega)) (nf _ (by omega) (by omega) (by omega) (by omega))
  have hb1 := hb'.off (sub2 ho1) (nf _ (by omega) (by omega) (by omega) (by omega)) (nf _ (by omega) (by omega) (by omega) (by omega))
  obtain ⟨ga, aT, -⟩ := ha1.out
  obtain ⟨gb, bT, -⟩ := hb1.out
  refine lv_aload_n hx hb dS_fill_7 rfl (lv_at hl 0 rfl) ?_
  refine lv_aload_n hx hb dS_fill_8 rfl (lv_at hl 1 rfl) ?_
  refine lv_iconst (v := nI 1) hx hb dS_fill_9 (by decide) ?_
  refine lv_aload_n hx hb dS_fill_10 rfl (lv_at hl 1 rfl) ?_
  refine mp_getN hE.1 hI aT rfl gx_T 1 (by decide) (ct_nw hE (q := ("BindingBench$Workshop", 44, "BindingBench$Term", "size", "I")) (by decide +kernel)) rfl dS_fill_11 ?_
  refine lv_aload_n hx hb dS_fill_14 rfl (lv_at hl 2 rfl) ?_
  refine lv_iconst (v := nI 0) hx hb dS_fill_15 (by decide) ?_
  refine lv_aload_n hx hb dS_fill_16 rfl (lv_at hl 2 rfl) ?_
  refine mp_getN hE.1 hI bT rfl gx_T 1 (by decide) (ct_nw hE (q := ("BindingBench$Workshop", 44, "BindingBench$Term", "size", "I")) (by decide +kernel)) rfl dS_fill_17 ?_
  refine ct_V (n := 6) hE hI (kS_addFilled (a := 1) (b := A.length) (c := 0) (d := B.length) hf hm hS1 hi him hj hjm ha1 hb1 hA1 (by omega) (by omega) (by omega) (by simp)) hS1.1 rfl gm_S69 gi_S_addFilled gs_S_S_addFilled gz_S gc_S_addFilled (by decide +kernel) ⟨Nat.le_of_ble_eq_true rfl, Nat.le_of_ble_eq_true rfl⟩ rfl hl.1 rfl (Nat.le_of_ble_eq_true rfl) dS_fill_20 ⟨Nat.le_of_ble_eq_true rfl, Nat.le_of_ble_eq_true rfl⟩ (fun v w2 H locs hq hI => ?_)
  obtain ⟨rfl, ho2, hS2⟩ := hq
  have e2 : [] ++ pt_fill (List.take (A.length - 1) (List.drop 1 A)) (List.take (B.length - 0) (List.drop 0 B)) ([], 0) = pt_fill (A.drop 1) B ([], 0) := by
    rw [List.nil_append, show List.take (B.length - 0) (List.drop 0 B) = B by simp, List.take_of_length_le (by rw [List.length_drop]; omega)]
  rw [e2] at hS2
  show W _ _ _ _ _ _ _ _ _ _ _ _ _ _ _ (F0 _ _ _ [])
  refine lv_aload_n hx hb dS_fill_23 rfl (lv_at hl 0 rfl) ?_
  obtain ⟨u4, hw4⟩ := hS2.2.2.1
  have hlen := pt_fill_len2 (La := A.drop 1) (Lb := B) (by rw [List.length_drop]; omega) hB2 ([], 0)
  refine ct_VX (n := 0) hE hI (kS_checked hl0 hf hm hS2.1 hS2.2.1 (by omega) hres hw4) hS2.1 rfl gm_S52 gi_S_checked gs_S_S_checked gz_S gc_S_checked (by decide +kernel) ⟨Nat.le_of_ble_eq_true rfl, Nat.le_of_ble_eq_true rfl⟩ rfl hl.1 rfl (Nat.le_of_ble_eq_true rfl) dS_fill_24 ⟨Nat.le_of_ble_eq_true rfl, Nat.le_of_ble_eq_true rfl⟩ (fun v w5 H locs hq hI => ?_) (fun E q ce w5 H locs ht hI hq hv hcl => ?_)
  · obtain ⟨rfl, hn, ho5, hu5⟩ := hq
    exact vx_ret (ct_aret hE hI hr (Or.inl ⟨_, rfl⟩) hk ⟨rfl, hn, ((sub2 ho1).tr (sub3 ho2)).tr (sub1 ho5), hS2.lev hf hm ho5 hu5⟩ (by decide) (by decide) dS_fill_27)
  · obtain ⟨rfl, hn, ho5, hu5⟩ := ht
    exact ct_out hI hout hk hq hv hcl ⟨rfl, hn, ((sub2 ho1).tr (sub3 ho2)).tr (sub1 ho5), _, hS2.lev hf hm ho5 hu5⟩ (by decide) (by decide)
end KS6
end
section
/-! Workshop: cut, contract, reduced -/
section KS7
variable {l : Launch} {n0 : Nat} {D : va_G} {K : Nat → ClassId} {w : mp_W} {f : Nat → Nat} {mi : Nat}
set_option maxRecDepth 100000 in
theorem kS_cut {i ci e1 : Nat} {v0 : Int32} {M A : List Int} (hf : ph_i f) (hm : mi = 16 ∨ mi = 17) (hS : pt_S K w f mi M) (hi : i < 18) (him : i ≠ mi) (ha : pt_R K w (f (13 + 2 * i)) (f (14 + 2 * i)) ci A) (he : 1 + tm_en tm_kc (A.drop 1) 1 = e1) (hA1 : e1 ≤ A.length) :
    ct_M l n0 D K yS_cut (Cond.code yS_cut cS_cut 4 (some (.object "BindingBench$Term"))) 2 90 0 0 [.ref (f 2), .ref (f (13 + 2 * i)), .int v0] w (fun v w' => v = some (.ref (f (13 + 2 * mi))) ∧ mp_off (fp_S f mi) w w' ∧ pt_S K w' f mi (if v0 = 0 then (A.drop 1).take (e1 - 1) else A.drop e1)) := by
  have hA2 : A.length ≤ 2000 := Nat.le_trans ha.2.1 ha.2.2.1
  have nf : ∀ x, 12 < x → x < 49 → x ≠ 13 + 2 * mi → x ≠ 14 + 2 * mi → f x ∉ fp_S f mi := fun x h0 h q3 q4 => hf.nin h [5, 6, 7, 8, 9, 10, 13 + 2 * mi, 14 + 2 * mi] (by intro b hb; simp at hb; omega)
  have sub2 : ∀ {x y : mp_W}, mp_off [f (13 + 2 * mi), f (14 + 2 * mi)] x y → mp_off (fp_S f mi) x y := fun h => h.mono (fun q hq => by simp at hq ⊢; omega)
  obtain ⟨g, kT, kA, kf⟩ := id hS.2.1
  obtain ⟨ga0, aT0, -⟩ := ha.out
  refine ct_go (own := nm_S) (by decide) rfl (Nat.le_of_ble_eq_true rfl) ?_
  intro p e s m below meth c ls hE hI hr hk hn hl
  have hx := hE.1.1.1
  have hb := hE.1.1.2.1
  have hl : lv_has ls 4 [(0, .ref (f 2)), (1, .ref (f (13 + 2 * i))), (2, .int v0)] := hl
  refine lv_aload_n hx hb dS_cut_0 rfl (lv_at hl 1 rfl) ?_
  refine lv_iconst (v := nI 1) hx hb dS_cut_1 (by decide) ?_
  refine ct_V (n := 1) hE hI (kT_endOf (a := 1) ha (by omega)) aT0 rfl gm_S73 gi_T_endOf gs_T_T_endOf gz_T gc_T_endOf (by decide +kernel) ⟨Nat.le_of_ble_eq_true rfl, Nat.le_of_ble_eq_true rfl⟩ rfl hl.1 rfl (Nat.le_of_ble_eq_true rfl) dS_cut_2 ⟨Nat.le_of_ble_eq_true rfl, Nat.le_of_ble_eq_true rfl⟩ (fun v w1 H locs hq hI => ?_)
  obtain ⟨hw, rfl⟩ := hq
  subst w1
  rw [he]
  show W _ _ _ _ _ _ _ _ _ _ _ _ _ _ _ (F0 _ _ _ [.int _])
  refine lv_istore_n hx hb dS_cut_5 rfl hl (by decide) rfl (fun ls hl => ?_)
  refine lv_aload_n hx hb dS_cut_6 rfl (lv_at hl 1 rfl) ?_
  refine mp_get hE.1 hI hS.1 rfl gx_S 0 (by decide) (List.mem_cons_of_mem _ gf_S14) rfl dS_cut_7 ?_
  refine ct_V (n := 0) hE hI (kT_clear kT) kT rfl gm_S38 gi_T_clear gs_T_T_clear gz_T gc_T_clear (by decide +kernel) ⟨Nat.le_of_ble_eq_true rfl, Nat.le_of_ble_eq_true rfl⟩ rfl hl.1 rfl (Nat.le_of_ble_eq_true rfl) dS_cut_10 ⟨Nat.le_of_ble_eq_true rfl, Nat.le_of_ble_eq_true rfl⟩ (fun v w1 H locs hq hI => ?_)
  obtain ⟨rfl, hw1⟩ := hq
  obtain ⟨hS1, ho1⟩ := hS.clear (n := 0) hf hm kA hw1
  clear hw1
  show W _ _ _ _ _ _ _ _ _ _ _ _ _ _ _ (F0 _ _ _ [])
  obtain ⟨ga, aT, aA, af, ac, ac2, ax⟩ := (ha.off (sub2 ho1) (nf _ (by omega) (by omega) (by omega) (by omega)) (nf _ (by omega) (by omega) (by omega) (by omega))).out
  obtain ⟨gm, mT, mA, mf⟩ := id hS1.2.1
  refine lv_iload_n hx hb dS_cut_13 rfl (lv_at hl 3 rfl) ?_
  refine lv_if_eq (tgt := 33) hx hb dS_cut_14 (by decide) (fun hz => ?_) (fun hz => ?_)
  · skip
    refine lv_aload_n hx hb dS_cut_33 rfl (lv_at hl 1 rfl) ?_
    refine mp_get hE.1 hI hS1.1 rfl gx_S 0 (by decide) (List.mem_cons_of_mem _ gf_S14) rfl dS_cut_34 ?_
    refine lv_aload_n hx hb dS_cut_37 rfl (lv_at hl 2 rfl) ?_
    refine lv_iconst (v := nI 1) hx hb dS_cut_38 (by decide) ?_
    refine lv_iload_n hx hb dS_cut_39 rfl (lv_at hl 0 rfl) ?_
    refine ct_V (n := 3) hE hI (kT_addAll (a := 1) (b := e1) hS1.2.1 aT aA af ac (by omega) hA1 (by decide) (by omega) (by simp)) mT rfl gm_S48 gi_T_addAll gs_T_T_addAll gz_T gc_T_addAll (by decide +kernel) ⟨Nat.le_of_ble_eq_true rfl, Nat.le_of_ble_eq_true rfl⟩ rfl hl.1 rfl (Nat.le_of_ble_eq_true rfl) dS_cut_40 ⟨Nat.le_of_ble_eq_true rfl, Nat.le_of_ble_eq_true rfl⟩ (fun v w2 H locs hq hI => ?_)
    obtain ⟨rfl, ho2, hp2⟩ := hq
    have hS2 := hS1.made hf hm ho2 hp2
    show W _ _ _ _ _ _ _ _ _ _ _ _ _ _ _ (F0 _ _ _ [])
    refine lv_aload_n hx hb dS_cut_43 rfl (lv_at hl 1 rfl) ?_
    refine mp_get hE.1 hI hS2.1 rfl gx_S 0 (by decide) (List.mem_cons_of_mem _ gf_S14) rfl dS_cut_44 ?_
    exact ct_aret hE hI hr (Or.inl ⟨_, rfl⟩) hk ⟨rfl, (sub2 ho1).tr (sub2 ho2), by rw [if_pos hz]; exact hS2⟩ (by decide) (by decide) dS_cut_47
  · skip
    refine lv_aload_n hx hb dS_cut_17 rfl (lv_at hl 1 rfl) ?_
    refine mp_get hE.1 hI hS1.1 rfl gx_S 0 (by decide) (List.mem_cons_of_mem _ gf_S14) rfl dS_cut_18 ?_
    refine lv_aload_n hx hb dS_cut_21 rfl (lv_at hl 2 rfl) ?_
    refine lv_iload_n hx hb dS_cut_22 rfl (lv_at hl 0 rfl) ?_
    refine lv_aload_n hx hb dS_cut_23 rfl (lv_at hl 2 rfl) ?_
    refine mp_getN hE.1 hI aT rfl gx_T 1 (by decide) (ct_nw hE (q := ("BindingBench$Workshop", 44, "BindingBench$Term", "size", "I")) (by decide +kernel)) rfl dS_cut_24 ?_
    refine ct_V (n := 3) hE hI (kT_addAll (a := e1) (b := A.length) hS1.2.1 aT aA af ac hA1 (by omega) (by decide) (by omega) (by simp)) mT rfl gm_S48 gi_T_addAll gs_T_T_addAll gz_T gc_T_addAll (by decide +kernel) ⟨Nat.le_of_ble_eq_true rfl, Nat.le_of_ble_eq_true rfl⟩ rfl hl.1 rfl (Nat.le_of_ble_eq_true rfl) dS_cut_27 ⟨Nat.le_of_ble_eq_true rfl, Nat.le_of_ble_eq_true rfl⟩ (fun v w2 H locs hq hI => ?_)
    obtain ⟨rfl, ho2, hp2⟩ := hq
    rw [List.nil_append, List.take_of_length_le (by rw [List.length_drop]; omega)] at hp2
    have hS2 := hS1.made hf hm ho2 hp2
    show W _ _ _ _ _ _ _ _ _ _ _ _ _ _ _ (F0 _ _ _ [])
    refine lv_goto (tgt := 43) hx hb dS_cut_30 (by decide) ?_
    refine lv_aload_n hx hb dS_cut_43 rfl (lv_at hl 1 rfl) ?_
    refine mp_get hE.1 hI hS2.1 rfl gx_S 0 (by decide) (List.mem_cons_of_mem _ gf_S14) rfl dS_cut_44 ?_
    exact ct_aret hE hI hr (Or.inl ⟨_, rfl⟩) hk ⟨rfl, (sub2 ho1).tr (sub2 ho2), by rw [if_neg hz]; exact hS2⟩ (by decide) (by decide) dS_cut_47
set_option maxRecDepth 100000 in
theorem kS_contract (hl0 : l.stackTraces = false) {i ci r e1 e2 : Nat} {M A : List Int} (hf : ph_i f) (hm : mi = 16 ∨ mi = 17) (hS : pt_S K w f mi M) (hi : i < 18) (him : i ≠ mi) (ha : pt_R K w (f (13 + 2 * i)) (f (14 + 2 * i)) ci A) (he1 : r + 1 + tm_en tm_kc (A.drop (r + 1)) 1 = e1) (he2 : e1 + tm_en tm_kc (A.drop e1) 1 = e2) (h1 : r + 2 ≤ e1) (h2 : e2 ≤ A.length)
    {N : List Int} (hN : A.take r ++ (pt_fill ((A.drop (r + 2)).take (e1 - (r + 2))) ((A.drop e1).take (e2 - e1)) ([], 0) ++ A.drop e2) = N) (hres : N.length ≤ 2000 → ∀ x ∈ N, -2 ≤ x ∧ x ≤ 1000000) :
    ct_X l n0 D K yS_contract (Cond.code yS_contract cS_contract 5 (some (.object "BindingBench$Term"))) 7 200 1 6 [.ref (f 2), .ref (f (13 + 2 * i)), .int (nI r)] w (po_N K f mi w N) (th_N K f mi w N) := by
  have hA2 : A.length ≤ 2000 := Nat.le_trans ha.2.1 ha.2.2.1
  have nf : ∀ x, 12 < x → x < 49 → x ≠ 13 + 2 * mi → x ≠ 14 + 2 * mi → f x ∉ fp_S f mi := fun x h0 h q3 q4 => hf.nin h [5, 6, 7, 8, 9, 10, 13 + 2 * mi, 14 + 2 * mi] (by intro b hb; simp at hb; omega)
  have sub2 : ∀ {x y : mp_W}, mp_off [f (13 + 2 * mi), f (14 + 2 * mi)] x y → mp_off (fp_S f mi) x y := fun h => h.mono (fun q hq => by simp at hq ⊢; omega)
  have sub1 : ∀ {x y : mp_W}, mp_off [f 5, f 6] x y → mp_off (fp_S f mi) x y := fun h => h.mono (fun q hq => by simp at hq ⊢; omega)
  have sub3 : ∀ {x y : mp_W}, mp_off (fp_F f mi) x y → mp_off (fp_S f mi) x y := fun h => h.mono (fun q hq => by simp at hq ⊢; omega)
  have h12 : e1 ≤ e2 := by omega
  have hl1 : ((A.drop (r + 2)).take (e1 - (r + 2))).length ≤ 2000 := by rw [List.length_take, List.length_drop]; omega
  have hl2 : ((A.drop e1).take (e2 - e1)).length ≤ 2000 := by rw [List.length_take, List.length_drop]; omega
  have hfl := pt_fill_len2 hl1 hl2 ([], 0)
  obtain ⟨g, kT, kA, kf⟩ := id hS.2.1
  obtain ⟨ga0, aT0, -⟩ := ha.out
  refine ct_goX (own := nm_S) (by decide) rfl (Nat.le_of_ble_eq_true rfl) ?_
  intro p e s m below meth c ls hE hI hr hk hout hl
  have hx := hE.1.1.1
  have hb := hE.1.1.2.1
  have hl : lv_has ls 5 [(0, .ref (f 2)), (1, .ref (f (13 + 2 * i))), (2, .int (nI r))] := hl
  refine lv_aload_n hx hb dS_contract_0 rfl (lv_at hl 1 rfl) ?_
  refine lv_iload_n hx hb dS_contract_1 rfl (lv_at hl 2 rfl) ?_
  refine lv_iconst (v := nI 1) hx hb dS_contract_2 (by decide) ?_
  refine lv_iadd hx hb dS_contract_3 ?_
  rw [nI_add]
  refine ct_V (n := 1) hE hI (kT_endOf (a := r + 1) ha (by omega)) aT0 rfl gm_S73 gi_T_endOf gs_T_T_endOf gz_T gc_T_endOf (by decide +kernel) ⟨Nat.le_of_ble_eq_true rfl, Nat.le_of_ble_eq_true rfl⟩ rfl hl.1 rfl (Nat.le_of_ble_eq_true rfl) dS_contract_4 ⟨Nat.le_of_ble_eq_true rfl, Nat.le_of_ble_eq_true rfl⟩ (fun v w1 H locs hq hI => ?_)
  obtain ⟨hw, rfl⟩ := hq
  subst w1
  rw [he1]
  show W _ _ _ _ _ _ _ _ _ _ _ _ _ _ _ (F0 _ _ _ [.int _])
  refine lv_istore_n hx hb dS_contract_7 rfl hl (by decide) rfl (fun ls hl => ?_)
  refine lv_aload_n hx hb dS_contract_8 rfl (lv_at hl 2 rfl) ?_
  refine lv_iload_n hx hb dS_contract_9 rfl (lv_at hl 0 rfl) ?_
  refine ct_V (n := 1) hE hI (kT_endOf (a := e1) ha (by omega)) aT0 rfl gm_S73 gi_T_endOf gs_T_T_endOf gz_T gc_T_endOf (by decide +kernel) ⟨Nat.le_of_ble_eq_true rfl, Nat.le_of_ble_eq_true rfl⟩ rfl hl.1 rfl (Nat.le_of_ble_eq_true rfl) dS_contract_10 ⟨Nat.le_of_ble_eq_true rfl, Nat.le_of_ble_eq_true rfl⟩ (fun v w1 H locs hq hI => ?_)
  obtain ⟨hw, rfl⟩ := hq
  subst w1
  rw [he2]
  show W _ _ _ _ _ _ _ _ _ _ _ _ _ _ _ (F0 _ _ _ [.int _])
  refine lv_istore hx hb dS_contract_13 hl (by decide) rfl (fun ls hl => ?_)
  refine lv_aload_n hx hb dS_contract_15 rfl (lv_at hl 2 rfl) ?_
  refine mp_get hE.1 hI hS.1 rfl gx_S 0 (by decide) (List.mem_cons_of_mem _ gf_S14) rfl dS_contract_16 ?_
  refine ct_V (n := 0) hE hI (kT_clear kT) kT rfl gm_S38 gi_T_clear gs_T_T_clear gz_T gc_T_clear (by decide +kernel) ⟨Nat.le_of_ble_eq_true rfl, Nat.le_of_ble_eq_true rfl⟩ rfl hl.1 rfl (Nat.le_of_ble_eq_true rfl) dS_contract_19 ⟨Nat.le_of_ble_eq_true rfl, Nat.le_of_ble_eq_true rfl⟩ (fun v w1 H locs hq hI => ?_)
  obtain ⟨rfl, hw1⟩ := hq
  obtain ⟨hS1, ho1⟩ := hS.clear (n := 0) hf hm kA hw1
  clear hw1
  show W _ _ _ _ _ _ _ _ _ _ _ _ _ _ _ (F0 _ _ _ [])
  obtain ⟨ga, aT, aA, af, ac, ac2, ax⟩ := (ha.off (sub2 ho1) (nf _ (by omega) (by omega) (by omega) (by omega)) (nf _ (by omega) (by omega) (by omega) (by omega))).out
  obtain ⟨gm, mT, mA, mf⟩ := id hS1.2.1
  refine lv_aload_n hx hb dS_contract_22 rfl (lv_at hl 2 rfl) ?_
  refine mp_get hE.1 hI hS1.1 rfl gx_S 0 (by decide) (List.mem_cons_of_mem _ gf_S14) rfl dS_contract_23 ?_
  refine lv_aload_n hx hb dS_contract_26 rfl (lv_at hl 3 rfl) ?_
  refine lv_iconst (v := nI 0) hx hb dS_contract_27 (by decide) ?_
  refine lv_iload_n hx hb dS_contract_28 rfl (lv_at hl 4 rfl) ?_
  refine ct_V (n := 3) hE hI (kT_addAll (a := 0) (b := r) hS1.2.1 aT aA af ac (by omega) (by omega) (by decide) (by omega) (by simp)) mT rfl gm_S48 gi_T_addAll gs_T_T_addAll gz_T gc_T_addAll (by decide +kernel) ⟨Nat.le_of_ble_eq_true rfl, Nat.le_of_ble_eq_true rfl⟩ rfl hl.1 rfl (Nat.le_of_ble_eq_true rfl) dS_contract_29 ⟨Nat.le_of_ble_eq_true rfl, Nat.le_of_ble_eq_true rfl⟩ (fun v w2 H locs hq hI => ?_)
  obtain ⟨rfl, ho2, hp2⟩ := hq
  rw [show [] ++ List.take (r - 0) (List.drop 0 A) = A.take r by simp] at hp2
  have hS2 := hS1.made hf hm ho2 hp2
  show W _ _ _ _ _ _ _ _ _ _ _ _ _ _ _ (F0 _ _ _ [])
  have ho2' := (sub2 ho1).tr (sub2 ho2)
  have ha2 := ha.off ho2' (nf _ (by omega) (by omega) (by omega) (by omega)) (nf _ (by omega) (by omega) (by omega) (by omega))
  refine lv_aload_n hx hb dS_contract_32 rfl (lv_at hl 2 rfl) ?_
  refine lv_aload_n hx hb dS_contract_33 rfl (lv_at hl 3 rfl) ?_
  refine lv_iload_n hx hb dS_contract_34 rfl (lv_at hl 4 rfl) ?_
  refine lv_iconst (v := nI 2) hx hb dS_contract_35 (by decide) ?_
  refine lv_iadd hx hb dS_contract_36 ?_
  rw [nI_add]
  refine lv_iload_n hx hb dS_contract_37 rfl (lv_at hl 1 rfl) ?_
  refine lv_aload_n hx hb dS_contract_38 rfl (lv_at hl 3 rfl) ?_
  refine lv_iload_n hx hb dS_contract_39 rfl (lv_at hl 1 rfl) ?_
  refine lv_iload hx hb dS_contract_40 (lv_at hl 0 rfl) ?_
  refine ct_V (n := 6) hE hI (kS_addFilled (a := r + 2) (b := e1) (c := e1) (d := e2) hf hm hS2 hi him hi him ha2 ha2 h1 (by omega) h12 h2 (by rw [List.length_take]; omega)) hS2.1 rfl gm_S69 gi_S_addFilled gs_S_S_addFilled gz_S gc_S_addFilled (by decide +kernel) ⟨Nat.le_of_ble_eq_true rfl, Nat.le_of_ble_eq_true rfl⟩ rfl hl.1 rfl (Nat.le_of_ble_eq_true rfl) dS_contract_42 ⟨Nat.le_of_ble_eq_true rfl, Nat.le_of_ble_eq_true rfl⟩ (fun v w3 H locs hq hI => ?_)
  obtain ⟨rfl, ho3, hS3⟩ := hq
  show W _ _ _ _ _ _ _ _ _ _ _ _ _ _ _ (F0 _ _ _ [])
  have ho3' := ho2'.tr (sub3 ho3)
  obtain ⟨ga3, aT3, aA3, af3, ac3, -⟩ := (ha.off ho3' (nf _ (by omega) (by omega) (by omega) (by omega)) (nf _ (by omega) (by omega) (by omega) (by omega))).out
  obtain ⟨gm3, mT3, mA3, mf3⟩ := id hS3.2.1
  refine lv_aload_n hx hb dS_contract_45 rfl (lv_at hl 2 rfl) ?_
  refine mp_get hE.1 hI hS3.1 rfl gx_S 0 (by decide) (List.mem_cons_of_mem _ gf_S14) rfl dS_contract_46 ?_
  refine lv_aload_n hx hb dS_contract_49 rfl (lv_at hl 3 rfl) ?_
  refine lv_iload hx hb dS_contract_50 (lv_at hl 0 rfl) ?_
  refine lv_aload_n hx hb dS_contract_52 rfl (lv_at hl 3 rfl) ?_
  refine mp_getN hE.1 hI aT3 rfl gx_T 1 (by decide) (ct_nw hE (q := ("BindingBench$Workshop", 44, "BindingBench$Term", "size", "I")) (by decide +kernel)) rfl dS_contract_53 ?_
  refine ct_V (n := 3) hE hI (kT_addAll (a := e2) (b := A.length) hS3.2.1 aT3 aA3 af3 ac3 h2 (by omega) (by decide) (by omega) (by rw [List.length_append, List.length_take]; omega)) mT3 rfl gm_S48 gi_T_addAll gs_T_T_addAll gz_T gc_T_addAll (by decide +kernel) ⟨Nat.le_of_ble_eq_true rfl, Nat.le_of_ble_eq_true rfl⟩ rfl hl.1 rfl (Nat.le_of_ble_eq_true rfl) dS_contract_56 ⟨Nat.le_of_ble_eq_true rfl, Nat.le_of_ble_eq_true rfl⟩ (fun v w4 H locs hq hI => ?_)
  obtain ⟨rfl, ho4, hp4⟩ := hq
  rw [show List.take (A.length - e2) (List.drop e2 A) = List.drop e2 A from List.take_of_length_le (by rw [List.length_drop]; omega), List.append_assoc, hN] at hp4
  have hS4 := hS3.made hf hm ho4 hp4
  show W _ _ _ _ _ _ _ _ _ _ _ _ _ _ _ (F0 _ _ _ [])
  have ho4' := ho3'.tr (sub2 ho4)
  refine lv_aload_n hx hb dS_contract_59 rfl (lv_at hl 2 rfl) ?_
  obtain ⟨u4, hw4⟩ := hS4.2.2.1
  refine ct_VX (n := 0) hE hI (kS_checked hl0 hf hm hS4.1 hS4.2.1 (by rw [← hN, List.length_append, List.length_append, List.length_take, List.length_drop]; omega) hres hw4) hS4.1 rfl gm_S52 gi_S_checked gs_S_S_checked gz_S gc_S_checked (by decide +kernel) ⟨Nat.le_of_ble_eq_true rfl, Nat.le_of_ble_eq_true rfl⟩ rfl hl.1 rfl (Nat.le_of_ble_eq_true rfl) dS_contract_60 ⟨Nat.le_of_ble_eq_true rfl, Nat.le_of_ble_eq_true rfl⟩ (fun v w5 H locs hq hI => ?_) (fun E q ce w5 H locs ht hI hq hv hcl => ?_)
  · obtain ⟨rfl, hn, ho5, hu5⟩ := hq
    exact vx_ret (ct_aret hE hI hr (Or.inl ⟨_, rfl⟩) hk ⟨rfl, hn, ho4'.tr (sub1 ho5), hS4.lev hf hm ho5 hu5⟩ (by decide) (by decide) dS_contract_63)
  · obtain ⟨rfl, hn, ho5, hu5⟩ := ht
    exact ct_out hI hout hk hq hv hcl ⟨rfl, hn, ho4'.tr (sub1 ho5), _, hS4.lev hf hm ho5 hu5⟩ (by decide) (by decide)
set_option maxRecDepth 100000 in
theorem kS_reduced (hS : w (f 2) = some (ob_S f mi)) : ct_M l n0 D K yS_reduced (Cond.code yS_reduced cS_reduced 1 (some (.object "BindingBench$Term"))) 0 0 0 0 [.ref (f 2)] w (fun v w' => w' = w ∧ v = some (.ref (f (13 + 2 * (33 - mi))))) := by
  refine ct_go (own := nm_S) (by decide) rfl (Nat.le_of_ble_eq_true rfl) ?_
  intro p e s m below meth c ls hE hI hr hk hn hl
  have hx := hE.1.1.1
  have hb := hE.1.1.2.1
  have hl : lv_has ls 1 [(0, .ref (f 2))] := hl
  refine lv_aload_n hx hb dS_reduced_0 rfl (lv_at hl 0 rfl) ?_
  refine mp_get hE.1 hI hS rfl gx_S 1 (by decide) (List.mem_cons_of_mem _ gf_S20) rfl dS_reduced_1 ?_
  exact ct_aret hE hI hr (Or.inl ⟨_, rfl⟩) hk ⟨rfl, rfl⟩ (by decide) (by decide) dS_reduced_4
end KS7
end
section
/-! rows of terms, as the class has them; Workshop: reduce -/
theorem tm_db_bd (t : Std.Format) : ∀ E, tm_sc t E → ∀ x ∈ tm_db t E, -2 ≤ x ∧ x ≤ 100 + (E.length : Int) + tm_sz t := by
  induction t using tm_ind with
  | hl t h =>
    intro E hs x hx
    rw [tm_db_leaf h] at hx
    rw [tm_sc_leaf h] at hs
    rw [tm_sz_leaf h]
    have hx : x = tm_lc E (tm_val t) := by simpa using hx
    rcases hs with hs | ⟨h1, h2⟩
    · rw [tm_lc_free hs.1] at hx; omega
    · rw [tm_lc_var h1] at hx
      have := tm_ix_in h2
      omega
  | hf j a ih =>
    intro E hs x hx
    show -2 ≤ x ∧ x ≤ 100 + (E.length : Int) + ((1 + tm_sz a : Nat) : Int)
    rw [tm_db_fun] at hx
    rcases List.mem_cons.mp hx with e | e
    · omega
    · have := ih (j :: E) hs x e
      rw [List.length_cons] at this
      omega
  | ha a b iha ihb =>
    intro E hs x hx
    show -2 ≤ x ∧ x ≤ 100 + (E.length : Int) + ((1 + tm_sz a + tm_sz b : Nat) : Int)
    rw [tm_db_app] at hx
    rcases List.mem_cons.mp hx with e | e
    · omega
    · rcases List.mem_append.mp e with e | e
      · have := iha E hs.1 x e; omega
      · have := ihb E hs.2 x e; omega
theorem tm_db_b {t : Std.Format} (hs : tm_sc t []) (hz : tm_sz t ≤ 2000) : ∀ x ∈ tm_db t [], -2 ≤ x ∧ x ≤ 1000000 := fun x hx => by
  have := tm_db_bd t [] hs x hx
  rw [List.length_nil] at this
  omega
theorem tm_bad (X : Std.Format) : pt_bad (tm_db X []) ↔ tm_chk X = none := by
  have h1 := tm_dd_dp X []
  have h2 := tm_dp_sz X
  unfold pt_bad tm_chk
  rw [tm_db_len]
  by_cases hc : tm_sz X ≤ 2000 ∧ tm_dp X ≤ 150
  · rw [if_pos hc]
    constructor
    · intro h
      have := h1.1 hc.2
      omega
    · intro h; cases h
  · rw [if_neg hc]
    refine ⟨fun _ => rfl, fun _ => ?_⟩
    by_cases hz : tm_sz X ≤ 2000
    · have hd : 150 < tm_dp X := by omega
      exact Or.inr ⟨by omega, h1.2 hd⟩
    · exact Or.inl (by omega)
theorem pt_rx_tm (t : Std.Format) (i : Nat) : pt_rx (tm_db t []) i ↔ tm_rx t i := (tm_rx_db t [] i).symm
theorem tm_f1_is {t : Std.Format} {p : Nat} (h : tm_rx t p) (hn : ∀ q, q < p → ¬ tm_rx t q) : tm_f1 (tm_ks t) = some p := by
  cases hf : tm_f1 (tm_ks t) with
  | none => exact absurd h (tm_f1_none _ hf p)
  | some q =>
    obtain ⟨h1, h2⟩ := tm_f1_some _ q hf
    rcases Nat.lt_trichotomy p q with e | e | e
    · exact absurd h (h2 p e)
    · rw [e]
    · exact absurd h1 (hn q e)
theorem tm_f1_no {t : Std.Format} (hn : ∀ q, ¬ tm_rx t q) : tm_f1 (tm_ks t) = none := by
  cases hf : tm_f1 (tm_ks t) with
  | none => rfl
  | some q => exact absurd (tm_f1_some _ q hf).1 (hn q)
theorem tm_ks_db (t : Std.Format) (i : Nat) : (tm_ks t)[i]? = some 2 ↔ (tm_db t [])[i]? = some (-1) := by
  rw [← tm_db_ks t [], List.getElem?_map]
  cases h : (tm_db t [])[i]? with
  | none => simp
  | some x =>
    constructor
    · intro e
      rw [tm_kc_2 (Option.some.inj e)]
    · intro e
      rw [Option.some.inj e]; rfl
theorem tm_h1_is {t : Std.Format} {p : Nat} (h : tm_rx t p) (hn : ∀ q, q < p → (tm_ks t)[q]? = some 2 ∧ ¬ tm_rx t q) : tm_h1 (tm_ks t) = some p := by
  cases hf : tm_h1 (tm_ks t) with
  | none => exact absurd h (tm_h1_none _ hf p (fun r hr => ⟨(hn r hr).1, fun e => (hn r hr).2 ⟨(hn r hr).1, e⟩⟩))
  | some q =>
    obtain ⟨h1, h2⟩ := tm_h1_some _ q hf
    rcases Nat.lt_trichotomy p q with e | e | e
    · exact absurd h.2 (h2 p e).2
    · rw [e]
    · exact absurd h1 (hn q e).2
theorem tm_h1_no {t : Std.Format} (hn : ∀ i, (∀ j, j < i → (tm_ks t)[j]? = some 2 ∧ ¬ tm_rx t j) → ¬ tm_rx t i) : tm_h1 (tm_ks t) = none := by
  cases hf : tm_h1 (tm_ks t) with
  | none => rfl
  | some q =>
    obtain ⟨h1, h2⟩ := tm_h1_some _ q hf
    exact absurd h1 (hn q (fun j hj => ⟨(h2 j hj).1, fun e => (h2 j hj).2 e.2⟩))
/-- the STEP at p, as Workshop.contract does it -/
theorem tm_con {t : Std.Format} (hok : tm_ok t) {p : Nat} (hp : tm_rx t p) : ∃ e1 e2, p + 1 + tm_en tm_kc ((tm_db t []).drop (p + 1)) 1 = e1 ∧ e1 + tm_en tm_kc ((tm_db t []).drop e1) 1 = e2 ∧ p + 2 ≤ e1 ∧ e2 ≤ (tm_db t []).length ∧
    (tm_db t []).take p ++ (pt_fill (((tm_db t []).drop (p + 2)).take (e1 - (p + 2))) (((tm_db t []).drop e1).take (e2 - e1)) ([], 0) ++ (tm_db t []).drop e2) = tm_db (tm_ct t p) [] ∧ tm_sc (tm_ct t p) [] := by
  obtain ⟨j, a, b, F, pre, post, pre', post', h1, -, h3, -, h5, -, h7, -, -, -, -⟩ := tm_step hok hp
  have hla := tm_db_len a (j :: F)
  have hlb := tm_db_len b F
  have d1 : (tm_db t []).drop (p + 1) = -2 :: (tm_db a (j :: F) ++ (tm_db b F ++ post)) := by
    rw [h3, ← h1, List.drop_length_add_append]; rfl
  have d2 : (tm_db t []).drop (p + 2) = tm_db a (j :: F) ++ (tm_db b F ++ post) := by
    rw [h3, ← h1, List.drop_length_add_append]; rfl
  have d3 : (tm_db t []).drop (p + 2 + tm_sz a) = tm_db b F ++ post := by
    rw [← List.drop_drop, d2, ← hla, List.drop_left]
  have d4 : (tm_db t []).drop (p + 2 + tm_sz a + tm_sz b) = post := by
    rw [← List.drop_drop, d3, ← hlb, List.drop_left]
  refine ⟨p + 2 + tm_sz a, p + 2 + tm_sz a + tm_sz b, ?_, ?_, by omega, ?_, ?_, h7⟩
  · rw [d1]
    have := tm_en_db (.tag j a) F (tm_db b F ++ post)
    rw [tm_db_fun] at this
    have e : tm_sz (.tag j a) = 1 + tm_sz a := rfl
    rw [e] at this
    have t2 : tm_en tm_kc (-2 :: (tm_db a (j :: F) ++ (tm_db b F ++ post))) 1 = 1 + tm_sz a := this
    rw [t2]; omega
  · rw [d3, tm_en_db]
  · rw [h3]
    simp only [List.length_append, List.length_cons]
    omega
  · rw [h5, d2, d3, d4, show p + 2 + tm_sz a - (p + 2) = tm_sz a by omega, show p + 2 + tm_sz a + tm_sz b - (p + 2 + tm_sz a) = tm_sz b by omega, ← hla, List.take_left, ← hlb, List.take_left, h3, ← h1, List.take_left]
    rfl
/-- what stands before a STEP's place stays -/
theorem tm_con_pre {t : Std.Format} (hok : tm_ok t) {p : Nat} (hp : tm_rx t p) {j : Nat} (hj : j < p) : (tm_db (tm_ct t p) [])[j]? = (tm_db t [])[j]? := by
  obtain ⟨_, a, b, F, pre, post, pre', post', h1, -, h3, -, h5, -⟩ := tm_step hok hp
  rw [h5, h3, List.getElem?_append_left (by omega), List.getElem?_append_left (by omega)]
theorem ci_max0 (p : Nat) (hp : p < 1000000) : (if (0 : Int32) < nI p - nI 1 then nI p - nI 1 else 0) = nI (p - 1) := by
  cases p with
  | zero => decide
  | succ p =>
    rw [pk_sub (by omega), show p + 1 - 1 = p by omega]
    cases p with
    | zero => decide
    | succ p => rw [if_pos (show (0 : Int32) < nI (p + 1) from nI_lt (a := 0) (b := p + 1) (by omega) (by omega))]
end
section
/-! Workshop: reduce -/
section KS9
variable {l : Launch} {n0 : Nat} {D : va_G} {K : Nat → ClassId} {w : mp_W} {f : Nat → Nat} {mi : Nat}
/-- the Workshop as calls find it: its Walks, and its two Terms of 2000 cells -/
def pt_G (K : Nat → ClassId) (w : mp_W) (f : Nat → Nat) (mi : Nat) : Prop := (mi = 16 ∨ mi = 17) ∧ (∃ M, pt_S K w f mi M) ∧ pt_V K w (f (13 + 2 * (33 - mi))) (f (14 + 2 * (33 - mi))) 2000
abbrev fp_G (f : Nat → Nat) : List Nat := [f 2, f 5, f 6, f 7, f 8, f 9, f 10, f 45, f 46, f 47, f 48]
theorem fp_G_S (hm : mi = 16 ∨ mi = 17) {x y : mp_W} (h : mp_off (fp_S f mi) x y) : mp_off (fp_G f) x y := by
  refine h.mono (fun q hq => ?_)
  rcases hm with rfl | rfl <;> simp at hq ⊢ <;> omega
theorem pt_V.off {w w' : mp_W} {t ar cap : Nat} {S : List Nat} (h : pt_V K w t ar cap) (ho : mp_off S w w') (h1 : t ∉ S) (h2 : ar ∉ S) : pt_V K w' t ar cap := by
  obtain ⟨n, g, a1, a2, a3⟩ := h
  exact ⟨n, g, by rw [ho t h1]; exact a1, by rw [ho ar h2]; exact a2, a3⟩
abbrev po_rd (K : Nat → ClassId) (f : Nat → Nat) (w : mp_W) (hd : Bool) (t : Std.Format) : Option Value → mp_W → Prop := fun v w' => ∃ n u mi', tm_rd hd 301 0 t = some (some (n, u)) ∧ v = some (.int (nI n)) ∧ mp_off (fp_G f) w w' ∧ pt_G K w' f mi' ∧ pt_R K w' (f (13 + 2 * (33 - mi'))) (f (14 + 2 * (33 - mi'))) 2000 (tm_db u []) ∧ tm_ok u
abbrev th_rd (K : Nat → ClassId) (f : Nat → Nat) (w : mp_W) (hd : Bool) (t : Std.Format) : String → mp_W → Prop := fun E w' => ∃ mi', ((E = "java/lang/IllegalStateException" ∧ tm_rd hd 301 0 t = none) ∨ (E = "java/lang/ArithmeticException" ∧ tm_rd hd 301 0 t = some none)) ∧ mp_off (fp_G f) w w' ∧ pt_G K w' f mi'
theorem tm_rd_0 (hd : Bool) (n : Nat) (t : Std.Format) : tm_rd hd 0 n t = some none := rfl
theorem tm_rd_no {hd : Bool} {k n : Nat} {t : Std.Format} (h : (if hd = true then tm_h1 (tm_ks t) else tm_f1 (tm_ks t)) = none) : tm_rd hd (k + 1) n t = some (some (n, t)) := by
  show (match (if hd = true then tm_h1 (tm_ks t) else tm_f1 (tm_ks t)) with
    | none => some (some (n, t))
    | some p => match tm_chk (tm_ct t p) with
      | none => none
      | some u => tm_rd hd k (n + 1) u) = _
  rw [h]
theorem tm_rd_bad {hd : Bool} {k n p : Nat} {t : Std.Format} (h : (if hd = true then tm_h1 (tm_ks t) else tm_f1 (tm_ks t)) = some p) (hc : tm_chk (tm_ct t p) = none) : tm_rd hd (k + 1) n t = none := by
  show (match (if hd = true then tm_h1 (tm_ks t) else tm_f1 (tm_ks t)) with
    | none => some (some (n, t))
    | some p => match tm_chk (tm_ct t p) with
      | none => none
      | some u => tm_rd hd k (n + 1) u) = _
  rw [h]
  show (match tm_chk (tm_ct t p) with
      | none => none
      | some u => tm_rd hd k (n + 1) u) = _
  rw [hc]
theorem tm_rd_on {hd : Bool} {k n p : Nat} {t u : Std.Format} (h : (if hd = true then tm_h1 (tm_ks t) else tm_f1 (tm_ks t)) = some p) (hc : tm_chk (tm_ct t p) = some u) : tm_rd hd (k + 1) n t = tm_rd hd k (n + 1) u := by
  show (match (if hd = true then tm_h1 (tm_ks t) else tm_f1 (tm_ks t)) with
    | none => some (some (n, t))
    | some p => match tm_chk (tm_ct t p) with
      | none => none
      | some u => tm_rd hd k (n + 1) u) = _
  rw [h]
  show (match tm_chk (tm_ct t p) with
      | none => none
      | some u => tm_rd hd k (n + 1) u) = _
  rw [hc]
set_option maxRecDepth 100000 in
set_option maxHeartbeats 4000000 in
theorem kS_reduce (hl0 : l.stackTraces = false) {i ci : Nat} {v0 : Int32} {hd : Bool} {t : Std.Format} (hf : ph_i f) (hG : pt_G K w f mi) (hi : i < 16) (ha : pt_R K w (f (13 + 2 * i)) (f (14 + 2 * i)) ci (tm_db t [])) (hok : tm_ok t) (hv0 : v0 = 0 ↔ hd = false) :
    ct_X l n0 D K yS_reduce (Cond.code yS_reduce cS_reduce 7 (some .int)) 8 240 303 4000 [.ref (f 2), .ref (f (13 + 2 * i)), .int v0] w (po_rd K f w hd t) (th_rd K f w hd t) := by
  obtain ⟨hm, ⟨M0, hS0⟩, hV0⟩ := hG
  have nG : ∀ x, x < 45 → (x < 2 ∨ 10 < x ∨ x = 3 ∨ x = 4) → f x ∉ fp_G f := fun x h q => hf.nin (by omega) [2, 5, 6, 7, 8, 9, 10, 45, 46, 47, 48] (by intro b hb; simp at hb; omega)
  refine ct_goX (own := nm_S) (by decide) rfl (Nat.le_of_ble_eq_true rfl) ?_
  intro p e s m below meth c ls hE hI hr hk hout hl
  have hx := hE.1.1.1
  have hb := hE.1.1.2.1
  have hl : lv_has ls 7 [(0, .ref (f 2)), (1, .ref (f (13 + 2 * i))), (2, .int v0)] := hl
  refine lv_aload_n hx hb dS_reduce_0 rfl (lv_at hl 0 rfl) ?_
  refine mp_get hE.1 hI hS0.1 rfl gx_S 1 (by decide) (List.mem_cons_of_mem _ gf_S20) rfl dS_reduce_1 ?_
  refine lv_aload_n hx hb dS_reduce_4 rfl (lv_at hl 1 rfl) ?_
  obtain ⟨nn, gg, vT, vA, vc⟩ := id hV0
  refine ct_V (n := 1) hE hI (kT_become hV0 ha) vT rfl gm_S77 gi_T_become gs_T_T_become gz_T gc_T_become (by decide +kernel) ⟨Nat.le_of_ble_eq_true rfl, Nat.le_of_ble_eq_true rfl⟩ rfl hl.1 rfl (Nat.le_of_ble_eq_true rfl) dS_reduce_5 ⟨Nat.le_of_ble_eq_true rfl, Nat.le_of_ble_eq_true rfl⟩ (fun v w1 H locs hq hI => ?_)
  obtain ⟨rfl, ar', cap', -, hsame, ho1, hp1⟩ := hq
  have hlen : (tm_db t []).length ≤ 2000 := Nat.le_trans ha.2.1 ha.2.2.1
  obtain ⟨rfl, rfl⟩ := hsame hlen
  have ns : ∀ x, x < 49 → x ≠ 13 + 2 * (33 - mi) → x ≠ 14 + 2 * (33 - mi) → f x ∉ [f (13 + 2 * (33 - mi)), f (14 + 2 * (33 - mi))] := fun x h q1 q2 => hf.nin h [13 + 2 * (33 - mi), 14 + 2 * (33 - mi)] (by intro b hb; simp at hb; omega)
  have hS1 : pt_S K w1 f mi M0 := by
    obtain ⟨h1, h2, ⟨u1, h3⟩, ⟨u2, h4⟩, u3, h5⟩ := hS0
    exact ⟨by rw [ho1 _ (ns 2 (by decide) (by omega) (by omega))]; exact h1, h2.off ho1 (ns _ (by omega) (by omega) (by omega)) (ns _ (by omega) (by omega) (by omega)), ⟨u1, h3.off ho1 (ns 5 (by decide) (by omega) (by omega)) (ns 6 (by decide) (by omega) (by omega))⟩, ⟨u2, h4.off ho1 (ns 7 (by decide) (by omega) (by omega)) (ns 8 (by decide) (by omega) (by omega))⟩, u3, h5.off ho1 (ns 9 (by decide) (by omega) (by omega)) (ns 10 (by decide) (by omega) (by omega))⟩
  have hoG : mp_off (fp_G f) w w1 := ho1.mono (fun q hq => by rcases hm with rfl | rfl <;> simp at hq ⊢ <;> omega)
  show W _ _ _ _ _ _ _ _ _ _ _ _ _ _ _ (F0 _ _ _ [.int _])
  refine lv_pop hx hb dS_reduce_8 rfl ?_
  refine lv_iconst (v := 0) hx hb dS_reduce_9 (by decide) ?_
  refine lv_istore_n hx hb dS_reduce_10 rfl hl (by decide) rfl (fun ls hl => ?_)
  refine lv_iconst (v := 0) hx hb dS_reduce_11 (by decide) ?_
  refine lv_istore hx hb dS_reduce_12 hl (by decide) rfl (fun ls hl => ?_)
  have loop : ∀ (k : Nat) (n fr mi : Nat) (t' : Std.Format) (w2 : mp_W) (M : List Int) (ls : Array Slot) (H : Heap) (locs : List Loc), n + k = 301 → fr ≤ 2000 → (mi = 16 ∨ mi = 17) → pt_S K w2 f mi M → pt_R K w2 (f (13 + 2 * (33 - mi))) (f (14 + 2 * (33 - mi))) 2000 (tm_db t' []) → tm_ok t' → (hd = false → ∀ j, j < fr → ¬ tm_rx t' j) → tm_rd hd k n t' = tm_rd hd 301 0 t → mp_off (fp_G f) w w2 → mp_I D cl_all (mp_A w s.heap.size) s.heap w2 H locs → lv_has ls 7 [(4, .int (nI n)), (3, .int (nI fr)), (0, .ref (f 2)), (1, .ref (f (13 + 2 * i))), (2, .int v0)] →
      W p l e { frames := 8, cells := 303, slots := 4000, locals := 240 } s m ([Value.ref (f 2), .ref (f (13 + 2 * i)), .int v0] : List Value).toArray below meth c H locs (1 + n) (2000 + 6 * n) (vx_MQ below (ct_Q D w s.heap.size (po_rd K f w hd t)) (ct_C D w s.heap.size (th_rd K f w hd t)) ([Value.ref (f 2), .ref (f (13 + 2 * i)), .int v0] : List Value).toArray s 303 4000 (mp_A w s.heap.size)) (F0 m 14 ls []) := by
    intro k
    induction k with
    | zero =>
      intro n fr mi t' w2 M ls H locs hnk hfr hm hS hp hok' hno hrd ho hI hl
      have : n = 301 := by omega
      subst this
      rw [tm_rd_0] at hrd
      refine lv_iload hx hb dS_reduce_14 (lv_at hl 0 rfl) ?_
      refine lv_sipush (v := nI 300) hx hb dS_reduce_16 (by decide) ?_
      refine lv_icmp_gt (tgt := 96) hx hb dS_reduce_19 (by decide) (fun hq => ?_) (fun hq => ?_)
      · exact ct_throw hE hl0 hI (cls := "java/lang/ArithmeticException") (text := "too many STEPS") (names := ["java/lang/RuntimeException", "java/lang/Exception"]) (ic := 102) (by decide +kernel) (by decide +kernel) gk_S98 gz_Jh (by decide +kernel) oa_S98_102 og_S98_102 hl.1 dS_reduce_96 dS_reduce_99 dS_reduce_100 dS_reduce_102 dS_reduce_105 hout (Nat.le_of_ble_eq_true rfl) (Nat.le_of_ble_eq_true rfl) (Nat.le_of_ble_eq_true rfl) (Nat.le_of_ble_eq_true rfl) hk ⟨mi, Or.inr ⟨rfl, hrd.symm⟩, ho, hm, ⟨M, hS⟩, hp.V⟩ (Nat.le_of_ble_eq_true rfl) (Nat.le_of_ble_eq_true rfl)
      · exact absurd (nI_lt (a := 300) (b := 301) (by omega) (by omega)) hq
    | succ k ih =>
      intro n fr mi t' w2 M ls H locs hnk hfr hm hS hp hok' hno hrd ho hI hl
      have hz' : (tm_db t' []).length ≤ 2000 := hp.2.1
      have h1 : 1 ≤ (tm_db t' []).length := by rw [tm_db_len]; exact tm_sz_pos t'
      obtain ⟨gs, sT, sA, sf, sc, sc2, sx⟩ := hp.out
      have going : ∀ (r : Int32) (ls : Array Slot) (H : Heap) (locs : List Loc), ((∃ q, r = nI q ∧ tm_rx t' q ∧ (if hd = true then tm_h1 (tm_ks t') else tm_f1 (tm_ks t')) = some q) ∨ (r = -1 ∧ (if hd = true then tm_h1 (tm_ks t') else tm_f1 (tm_ks t')) = none)) → mp_I D cl_all (mp_A w s.heap.size) s.heap w2 H locs → lv_has ls 7 [(4, .int (nI n)), (3, .int (nI fr)), (0, .ref (f 2)), (1, .ref (f (13 + 2 * i))), (2, .int v0)] →
          W p l e { frames := 8, cells := 303, slots := 4000, locals := 240 } s m ([Value.ref (f 2), .ref (f (13 + 2 * i)), .int v0] : List Value).toArray below meth c H locs (1 + n) (2000 + 6 * n) (vx_MQ below (ct_Q D w s.heap.size (po_rd K f w hd t)) (ct_C D w s.heap.size (th_rd K f w hd t)) ([Value.ref (f 2), .ref (f (13 + 2 * i)), .int v0] : List Value).toArray s 303 4000 (mp_A w s.heap.size)) (F0 m 44 ls [.int r]) := by
        intro r ls H locs hrr hI hl
        refine lv_istore hx hb dS_reduce_44 hl (by decide) rfl (fun ls hl => ?_)
        refine lv_iload hx hb dS_reduce_46 (lv_at hl 0 rfl) ?_
        refine lv_iconst (v := (-1)) hx hb dS_reduce_48 (by decide) ?_
        refine lv_icmp_ne (tgt := 55) hx hb dS_reduce_49 (by decide) (fun hq => ?_) (fun hq => ?_)
        · rcases hrr with ⟨q, rfl, hrx, hst⟩ | ⟨e, -⟩
          · have hlt := tm_rx_lt hrx
            rw [tm_db_len] at hz'
            obtain ⟨e1, e2, c1, c2, c3, c4, c5, c6⟩ := tm_con hok' hrx
            have hsz : (tm_db (tm_ct t' q) []).length ≤ 2000 → ∀ x ∈ tm_db (tm_ct t' q) [], -2 ≤ x ∧ x ≤ 1000000 := fun h => tm_db_b c6 (by rw [tm_db_len] at h; exact h)
            refine lv_aload_n hx hb dS_reduce_55 rfl (lv_at hl 3 rfl) ?_
            refine lv_aload_n hx hb dS_reduce_56 rfl (lv_at hl 3 rfl) ?_
            refine mp_get hE.1 hI hS.1 rfl gx_S 1 (by decide) (List.mem_cons_of_mem _ gf_S20) rfl dS_reduce_57 ?_
            refine lv_iload hx hb dS_reduce_60 (lv_at hl 0 rfl) ?_
            refine ct_VX (n := 2) hE hI (kS_contract hl0 hf hm hS (i := 33 - mi) (by omega) (by omega) hp c1 c2 c3 c4 c5 hsz) hS.1 rfl gm_S88 gi_S_contract gs_S_S_contract gz_S gc_S_contract (by decide +kernel) ⟨Nat.le_of_ble_eq_true rfl, Nat.le_of_ble_eq_true rfl⟩ rfl hl.1 rfl (Nat.le_of_ble_eq_true rfl) dS_reduce_62 ⟨by show 1 + n + 1 ≤ 303; omega, by show 2000 + 6 * n + 6 ≤ 4000; omega⟩ (fun v w3 H locs hq hI => ?_) (fun E q ce w3 H locs ht hI hq hv hcl => ?_)
            · obtain ⟨rfl, hbad, ho3, hS3⟩ := hq
              rw [tm_bad] at hbad
              cases hchk : tm_chk (tm_ct t' q) with
              | none => exact absurd hchk hbad
              | some u =>
                obtain ⟨hoku, hdbu, -, hz1, hz2⟩ := tm_chk_ok c6 hchk
                show W _ _ _ _ _ _ _ _ _ _ _ _ _ _ _ (F0 _ _ _ [.ref _])
                have nS : ∀ x, x < 49 → x ≠ 13 + 2 * mi → x ≠ 14 + 2 * mi → (x < 5 ∨ 10 < x) → f x ∉ fp_S f mi := fun x h q1 q2 q3 => hf.nin h [5, 6, 7, 8, 9, 10, 13 + 2 * mi, 14 + 2 * mi] (by intro b hb; simp at hb; omega)
                have hp3 := hp.off ho3 (nS _ (by omega) (by omega) (by omega) (by omega)) (nS _ (by omega) (by omega) (by omega) (by omega))
                refine lv_astore hx hb dS_reduce_65 hl (by decide) rfl (fun ls hl => ?_)
                refine lv_aload_n hx hb dS_reduce_67 rfl (lv_at hl 4 rfl) ?_
                refine lv_aload_n hx hb dS_reduce_68 rfl (lv_at hl 4 rfl) ?_
                refine mp_get hE.1 hI hS3.1 rfl gx_S 1 (by decide) (List.mem_cons_of_mem _ gf_S20) rfl dS_reduce_69 ?_
                refine mp_put hE.1 hI hS3.1 rfl gx_S ty_S to_S tn_S 0 (by decide) (List.mem_cons_of_mem _ gf_S14) rfl rfl rfl (Nat.le_of_ble_eq_true rfl) dS_reduce_72 (fun H locs hI => ?_)
                obtain ⟨w4, hw4⟩ : ∃ z, mp_up w3 (f 2) (.inr (3, [.ref (f (13 + 2 * (33 - mi))), .ref (f (13 + 2 * (33 - mi))), .ref (f 5), .ref (f 7), .ref (f 9)])) = z := ⟨_, rfl⟩
                have hI : mp_I D cl_all (mp_A w s.heap.size) s.heap w4 H locs := by rw [← hw4]; exact hI
                have hS4 : w4 (f 2) = some (.inr (3, [.ref (f (13 + 2 * (33 - mi))), .ref (f (13 + 2 * (33 - mi))), .ref (f 5), .ref (f 7), .ref (f 9)])) := by rw [← hw4]; exact mp_up_self ..
                refine lv_aload_n hx hb dS_reduce_75 rfl (lv_at hl 4 rfl) ?_
                refine lv_aload hx hb dS_reduce_76 (lv_at hl 0 rfl) ?_
                refine mp_put hE.1 hI hS4 rfl gx_S ty_S to_S tn_S 1 (by decide) (List.mem_cons_of_mem _ gf_S20) rfl rfl rfl (Nat.le_of_ble_eq_true rfl) dS_reduce_78 (fun H locs hI => ?_)
                obtain ⟨w5, hw5⟩ : ∃ z, mp_up w4 (f 2) (ob_S f (33 - mi)) = z := ⟨_, rfl⟩
                have e33 : 33 - (33 - mi) = mi := by omega
                have hI : mp_I D cl_all (mp_A w s.heap.size) s.heap w5 H locs := by
                  rw [← hw5]
                  unfold ob_S
                  rw [e33]
                  exact hI
                have ho5 : mp_off [f 2] w3 w5 := by rw [← hw5, ← hw4]; exact ((mp_off.rf _ _).up (by simp) _).up (by simp) _
                have n2 : ∀ x, x < 49 → x ≠ 2 → f x ∉ [f 2] := fun x h q => hf.nin h [2] (by intro b hb; simp at hb; omega)
                have hS5 : pt_S K w5 f (33 - mi) (tm_db t' []) := by
                  obtain ⟨-, h2, ⟨u1, h3⟩, ⟨u2, h4⟩, u3, h5⟩ := hS3
                  exact ⟨by rw [← hw5]; exact mp_up_self .., hp3.1.off ho5 (n2 _ (by omega) (by omega)) (n2 _ (by omega) (by omega)), ⟨u1, h3.off ho5 (n2 5 (by decide) (by decide)) (n2 6 (by decide) (by decide))⟩, ⟨u2, h4.off ho5 (n2 7 (by decide) (by decide)) (n2 8 (by decide) (by decide))⟩, u3, h5.off ho5 (n2 9 (by decide) (by decide)) (n2 10 (by decide) (by decide))⟩
                have hp5 : pt_R K w5 (f (13 + 2 * (33 - (33 - mi)))) (f (14 + 2 * (33 - (33 - mi)))) 2000 (tm_db u []) := by
                  rw [e33, hdbu]
                  exact ⟨hS3.2.1.off ho5 (n2 _ (by omega) (by omega)) (n2 _ (by omega) (by omega)), by rw [tm_db_len]; exact hz1, by omega, tm_db_b c6 hz1⟩
                have hoG5 : mp_off (fp_G f) w w5 := (ho.tr (fp_G_S hm ho3)).tr (ho5.mono (fun q hq => by simp at hq ⊢; omega))
                refine lv_iconst (v := 0) hx hb dS_reduce_81 (by decide) ?_
                refine lv_iload hx hb dS_reduce_82 (lv_at hl 1 rfl) ?_
                refine lv_iconst (v := nI 1) hx hb dS_reduce_84 (by decide) ?_
                refine lv_isub hx hb dS_reduce_85 ?_
                refine va_mmax hx hb (by rw [hE.1.1.2.2.1]; exact hl.1.symm) hE.1.1.2.2.2.1 (ct_w hE gm_S92) (ct_w hE gt_Jm_max) (ct_w hE gz_Jm) (ct_w hE gc_Jm_max) (Nat.le_of_ble_eq_true rfl) (Nat.le_of_ble_eq_true rfl) (by show 1 + n + 1 ≤ 303; omega) (by show 2000 + 6 * n + 6 ≤ 4000; omega) dS_reduce_86 ?_
                rw [ci_max0 q (by omega)]
                refine lv_istore_n hx hb dS_reduce_89 rfl hl (by decide) rfl (fun ls hl => ?_)
                refine lv_iinc (k := 3) (v := nI (n + 1)) hx hb dS_reduce_90 hl rfl (nI_1 n) (by decide) rfl (fun ls hl => ?_)
                refine lv_goto (tgt := 14) hx hb dS_reduce_93 (by decide) ?_
                have hl := lv_sub hl [0, 1, 4, 5, 6] rfl
                refine W.widen (k := 1 + (n + 1)) (n := 2000 + 6 * (n + 1)) (by omega) (by omega) ?_
                refine ih (n + 1) (q - 1) (33 - mi) u w5 _ ls H locs (by omega) (by omega) (by omega) hS5 hp5 hoku (fun hh j hj => ?_) (by rw [← hrd, tm_rd_on hst hchk]) hoG5 hI hl
                rw [← pt_rx_tm, hdbu]
                unfold pt_rx
                rw [tm_con_pre hok' hrx (by omega), tm_con_pre hok' hrx (by omega)]
                have := (tm_f1_some _ q (by rw [hh] at hst; exact hst)).2 j (by omega)
                exact fun z => this ((pt_rx_tm t' j).mp z)
            · obtain ⟨rfl, hbad, ho3, M3, hS3⟩ := ht
              rw [tm_bad] at hbad
              have nS : ∀ x, x < 49 → x ≠ 13 + 2 * mi → x ≠ 14 + 2 * mi → (x < 5 ∨ 10 < x) → f x ∉ fp_S f mi := fun x h q1 q2 q3 => hf.nin h [5, 6, 7, 8, 9, 10, 13 + 2 * mi, 14 + 2 * mi] (by intro b hb; simp at hb; omega)
              exact ct_out hI hout hk hq hv hcl ⟨mi, Or.inl ⟨rfl, by rw [← hrd, tm_rd_bad hst hbad]⟩, ho.tr (fp_G_S hm ho3), hm, ⟨M3, hS3⟩, hp.V.off ho3 (nS _ (by omega) (by omega) (by omega) (by omega)) (nS _ (by omega) (by omega) (by omega) (by omega))⟩ (by omega) (by omega)
          · exact absurd e hq
        · rcases hrr with ⟨q, rfl, hrx, -⟩ | ⟨-, hst⟩
          · have hlt := tm_rx_lt hrx
            rw [tm_db_len] at hz'
            exact absurd (by rw [hq]; decide) (nI_pos (n := q) (by omega))
          · skip
            refine lv_iload hx hb dS_reduce_52 (lv_at hl 1 rfl) ?_
            exact vx_ret (ct_iret hE hI hr hk ⟨n, t', mi, by rw [← hrd, tm_rd_no hst], rfl, ho, ⟨hm, ⟨M, hS⟩, hp.V⟩, hp, hok'⟩ (by omega) (by omega) dS_reduce_54)
      refine lv_iload hx hb dS_reduce_14 (lv_at hl 0 rfl) ?_
      refine lv_sipush (v := nI 300) hx hb dS_reduce_16 (by decide) ?_
      refine lv_icmp_gt (tgt := 96) hx hb dS_reduce_19 (by decide) (fun hq => ?_) (fun hq => ?_)
      · exact absurd hq (nI_nlt (by omega) (by omega))
      · skip
        refine lv_iload_n hx hb dS_reduce_22 rfl (lv_at hl 4 rfl) ?_
        refine lv_if_eq (tgt := 36) hx hb dS_reduce_23 (by decide) (fun hz => ?_) (fun hz => ?_)
        · have hd0 : hd = false := hv0.mp hz
          refine lv_aload_n hx hb dS_reduce_36 rfl (lv_at hl 2 rfl) ?_
          refine mp_get hE.1 hI hS.1 rfl gx_S 1 (by decide) (List.mem_cons_of_mem _ gf_S20) rfl dS_reduce_37 ?_
          refine lv_iload_n hx hb dS_reduce_40 rfl (lv_at hl 1 rfl) ?_
          refine ct_V (n := 1) hE hI (kT_firstRedex (a := fr) hp (by omega) h1) sT rfl gm_S85 gi_T_firstRedex gs_T_T_firstRedex gz_T gc_T_firstRedex (by decide +kernel) ⟨Nat.le_of_ble_eq_true rfl, Nat.le_of_ble_eq_true rfl⟩ rfl hl.1 rfl (Nat.le_of_ble_eq_true rfl) dS_reduce_41 ⟨by show 1 + n + 0 ≤ 303; omega, by show 2000 + 6 * n + 0 ≤ 4000; omega⟩ (fun v w1 H locs hq hI => ?_)
          obtain ⟨hw, r, rfl, hrr⟩ := hq
          subst w1
          show W _ _ _ _ _ _ _ _ _ _ _ _ _ _ _ (F0 _ _ _ [.int _])
          refine going r ls H locs ?_ hI hl
          rcases hrr with ⟨q, e, hge, hrx, hlt⟩ | ⟨e, hno2⟩
          · refine Or.inl ⟨q, e, (pt_rx_tm t' q).mp hrx, ?_⟩
            rw [hd0]
            refine tm_f1_is ((pt_rx_tm t' q).mp hrx) (fun j hj => ?_)
            by_cases hjf : j < fr
            · exact hno hd0 j hjf
            · exact fun z => hlt j (by omega) hj ((pt_rx_tm t' j).mpr z)
          · refine Or.inr ⟨e, ?_⟩
            rw [hd0]
            refine tm_f1_no (fun j => ?_)
            by_cases hjf : j < fr
            · exact hno hd0 j hjf
            · exact fun z => hno2 j (by omega) ((pt_rx_tm t' j).mpr z)
        · have hd1 : hd = true := by
            cases hd with
            | true => rfl
            | false => exact absurd (hv0.mpr rfl) hz
          refine lv_aload_n hx hb dS_reduce_26 rfl (lv_at hl 2 rfl) ?_
          refine mp_get hE.1 hI hS.1 rfl gx_S 1 (by decide) (List.mem_cons_of_mem _ gf_S20) rfl dS_reduce_27 ?_
          refine ct_V (n := 0) hE hI (kT_headRedex hp h1) sT rfl gm_S81 gi_T_headRedex gs_T_T_headRedex gz_T gc_T_headRedex (by decide +kernel) ⟨Nat.le_of_ble_eq_true rfl, Nat.le_of_ble_eq_true rfl⟩ rfl hl.1 rfl (Nat.le_of_ble_eq_true rfl) dS_reduce_30 ⟨by show 1 + n + 0 ≤ 303; omega, by show 2000 + 6 * n + 0 ≤ 4000; omega⟩ (fun v w1 H locs hq hI => ?_)
          obtain ⟨hw, r, rfl, hrr⟩ := hq
          subst w1
          show W _ _ _ _ _ _ _ _ _ _ _ _ _ _ _ (F0 _ _ _ [.int _])
          refine lv_goto (tgt := 44) hx hb dS_reduce_33 (by decide) ?_
          refine going r ls H locs ?_ hI hl
          rcases hrr with ⟨q, e, hrx, hlt⟩ | ⟨e, hno2⟩
          · refine Or.inl ⟨q, e, (pt_rx_tm t' q).mp hrx, ?_⟩
            rw [hd1]
            exact tm_h1_is ((pt_rx_tm t' q).mp hrx) (fun j hj => ⟨(tm_ks_db t' j).mpr (hlt j hj).1, fun z => (hlt j hj).2 ((pt_rx_tm t' j).mpr z)⟩)
          · refine Or.inr ⟨e, ?_⟩
            rw [hd1]
            refine tm_h1_no (fun j hj z => hno2 j (fun r hr => ?_) ((pt_rx_tm t' j).mpr z))
            exact ⟨(tm_ks_db t' r).mp (hj r hr).1, fun y => (hj r hr).2 ((pt_rx_tm t' r).mp y)⟩
  exact loop 301 0 0 mi t w1 M0 ls H locs rfl (by omega) hm hS1 hp1 hok (fun _ j hj => by omega) rfl hoG hI hl
end KS9
end
section
/-! throwing a NoSuchElementException: its constructor passes its text on by another entry of its pool than the common ones -/
/-- the words of such a throw: X passes on to Y by the entry i1 of its pool, Y up to Throwable as the common ones -/
def nx_atoms (own : String) (ic : Nat) (X Y : String) (i1 : Nat) (b1 : ByteArray) (names : List String) : List Cond :=
  Bundle.throwableAtoms ++ Bundle.throwableSAtoms ++ (Bundle.passSAtoms X Y i1 b1 ++ Bundle.chainSAtoms Y names) ++
  [.methodLink own ic (Bundle.initS X), .instantiable X 6, .selects X Bundle.tFill0 Bundle.tFill0, .selects X Bundle.tFill Bundle.tFill,
   .lays X Bundle.tN "cause" "Ljava/lang/Throwable;", .lays X Bundle.tN "stackTrace" Bundle.steD, .lays X Bundle.tN "suppressedExceptions" Bundle.listD, .lays X Bundle.tN "detailMessage" "Ljava/lang/String;",
   .isRef (.static Bundle.tN "UNASSIGNED_STACK" Bundle.steD), .isRef (.static Bundle.tN "SUPPRESSED_SENTINEL" Bundle.listD),
   .fieldLink Bundle.tN 198 Bundle.tN "backtrace" "Ljava/lang/Object;", .lays Bundle.tN Bundle.tN "backtrace" "Ljava/lang/Object;", .lays X Bundle.tN "backtrace" "Ljava/lang/Object;"]
section NXT
variable {p : Program} {l : Launch} {e : Env} {R : Room} {s : State} {m : MethodId} {args : Array Value} {below : List Frame} {meth : Method} {c : Code} {W0 : State} {locs : List Loc} {cells slots : Nat}
set_option maxHeartbeats 2000000 in
theorem nx_ctor (X : Stand p l e R s m args below meth c W0 locs cells slots) (hexec : p.tables.exec = Jvm.exec) (htr : e.platform.stackTraces = false) {own cls sup : String} {names : List String} {ic i1 : Nat} {b1 : ByteArray}
    (hown : s.vm.findClass own = some m.cls) (hcls : Bundle.fit cls = true) (hsup : Bundle.fit sup = true) (hnames : ∀ n ∈ names, Bundle.fit n = true) (h : ∀ a ∈ nx_atoms own ic cls sup i1 b1 names, a.before args s = true)
    (q0 : decode b1 0 = .ok (.aload_n 0, 1)) (q1 : decode b1 1 = .ok (.aload_n 1, 1)) (q2 : decode b1 2 = .ok (.invokespecial i1, 3)) (q5 : decode b1 5 = .ok (.return_, 1))
    (hlocs : ∀ x ∈ locs, ∀ cell, s.heap[x.base]? = some cell → cell.vm.isStatics = false)
    {a : Addr} {cX : ClassId} {kX : Class} (hfX : s.vm.findClass cls = some cX) (hkX : s.vm.classes[cX]? = some kX) (hcell : W0.heap[a]? = some (freshCell cX kX)) (hnew : s.heap.size ≤ a) {msg : Value} (hmsg : msg.isRef = true)
    {g : JFrame} (hg : g.method = m) (hsize : g.locals.size = c.maxLocals) (hlocked : g.locked = none) (hentered : g.entered = []) {rest : List Value} (hstack : g.stack = msg :: .ref a :: .ref a :: rest)
    (hd6 : decode c.code g.pc = .ok (.invokespecial ic, 3)) (hd9 : decode c.code (g.pc + 3) = .ok (.athrow, 1)) (hout : ∀ x ∈ c.exceptionTable.toList, covers x (g.pc + 3) = false)
    (hRf : names.length + 4 < R.frames) (hRl : 2 * g.monitorRoom + ((Value.ref a :: rest).map fun v => v.category).sum + (13 * (names.length + 2) + 42) ≤ R.locals) (hlocks : meth.locks = false) :
    ∃ U : State, Steps p.tables e below (W0.setTop g) U ∧ U.status = .running ∧ Ended U below (.threw a) ∧ s.WarmedH U.vm ∧ s.sameButNew ({ U with vm := s.vm } : State) locs cells slots ∧ ∃ ce : Cell, U.heap[a]? = some ce ∧ ce.vm = .none ∧ s.vm.findClass cls = some ce.cls := by
  have howns : e.platform.frameOwnsMonitors = true := by rw [X.admits.platform]
  have hfin : e.platform.finalization = false := by rw [X.admits.platform]
  have hpl : e.platform.magicAccessors = ({} : Platform).magicAccessors := by rw [X.admits.platform]
  have a' : ∀ x, x ∈ nx_atoms own ic cls sup i1 b1 names → x.holds args s none s [] = true := fun x hx => h x hx
  obtain ⟨T, Z0, L, -, Y⟩ := ThrowableC.of_atoms (args := args) howns hfin hpl (fun x hx => h x (by simp [nx_atoms, hx]))
  obtain ⟨Z, M, LZ, LM, hnZ⟩ := Init0T.ofS_atoms (args := args) hpl L Y (fun x hx => h x (by simp [nx_atoms, hx]))
  obtain ⟨P2, Ps, hlen, L2, hL, hP2m, hlink2, hlink⟩ := Bundle.chainS (args := args) hpl hnZ names sup hsup hnames (fun x hx => h x (by simp [nx_atoms, hx]))
  obtain ⟨P1, L1, hP1m, hP1s⟩ := PassC.ofS_atoms (args := args) (s := s) hpl (X := cls) (Y := sup) (Bundle.fit_spec hcls).1 (Bundle.fit_spec hsup).2 q0 q1 q2 q5 (fun x hx => h x (by simp [nx_atoms, hx]))
  have hlink1 : P1.sup = P2.m := Option.some.inj (hP1s.symm.trans hP2m)
  have hfound : s.vm.findClass cls = some P1.m.cls := findClass_of_methodNamed hP1m
  cases Option.some.inj (hfX.symm.trans hfound)
  obtain ⟨c1, kX', hc1, hk, hord, -, -, hn6⟩ := Cond.instantiable_spec (a' (.instantiable cls 6) (by simp [nx_atoms]))
  cases Option.some.inj (hc1.symm.trans hfound)
  cases Option.some.inj (hkX.symm.trans hk)
  have hsel0 : selectMethod e.platform s.vm P1.m.cls T.fill0 = .method T.fill0 := by
    obtain ⟨c2, r2, m2, z1, z2, z3, z4, -⟩ := Cond.selects_spec (a' (.selects cls Bundle.tFill0 Bundle.tFill0) (by simp [nx_atoms]))
    cases Option.some.inj (z1.symm.trans hfound)
    cases Option.some.inj (z2.symm.trans (State.methodFound?_of_named Y.fill0 (by decide)))
    cases Option.some.inj (z3.symm.trans Y.fill0)
    rw [Launch.admits_selectMethod X.admits]; exact z4
  have hselF : selectMethod e.platform s.vm P1.m.cls T.fill = .method T.fill := by
    obtain ⟨c2, r2, m2, z1, z2, z3, z4, -⟩ := Cond.selects_spec (a' (.selects cls Bundle.tFill Bundle.tFill) (by simp [nx_atoms]))
    cases Option.some.inj (z1.symm.trans hfound)
    cases Option.some.inj (z2.symm.trans (State.methodFound?_of_named Y.fill (by decide)))
    cases Option.some.inj (z3.symm.trans Y.fill)
    rw [Launch.admits_selectMethod X.admits]; exact z4
  obtain ⟨cellS0, hcS0, hiss⟩ := Y.statics
  obtain ⟨u0, hu0⟩ := Cond.staticRefV Y.unassigned L.unassignedStatic L.statics hcS0 hiss (a' (.isRef (.static Bundle.tN "UNASSIGNED_STACK" Bundle.steD)) (by simp [nx_atoms]))
  obtain ⟨sen, hsen⟩ := Cond.staticRefV Y.sentinel L.sentinelStatic L.statics hcS0 hiss (a' (.isRef (.static Bundle.tN "SUPPRESSED_SENTINEL" Bundle.listD)) (by simp [nx_atoms]))
  obtain ⟨ci198, i198, fB, hk198, hg198, ha198, hsB, -, hnB, htB, hffB⟩ := Cond.ownField (t := .object "java/lang/Object") Y.found L.cls (by decide +kernel) (a' (.fieldLink Bundle.tN 198 Bundle.tN "backtrace" "Ljava/lang/Object;") (by simp [nx_atoms])) (a' (.lays Bundle.tN Bundle.tN "backtrace" "Ljava/lang/Object;") (by simp [nx_atoms])) e.platform hpl
  obtain ⟨cellS, hcS', heS, -, hkeep⟩ := X.same.2.2.2.2.2 T.aS cellS0 hcS0
  have hcellS : W0.heap[T.aS]? = some cellS := hcS'
  have hout' : ∀ i, (⟨T.aS, i⟩ : Loc) ∉ locs := fun i hmem => by
    have := hlocs _ hmem cellS0 hcS0
    rw [hiss] at this; cases this
  have hknownS : cellS.vm ≠ .unknown := by
    rw [heS]; intro hu
    rw [show cellS0.vm = .unknown from hu] at hiss
    cases hiss
  have hneS : T.aS ≠ a := Nat.ne_of_lt (Nat.lt_of_lt_of_le (Array.getElem?_eq_some_iff.mp hcS0).1 hnew)
  obtain ⟨iM, hffM⟩ := Y.msg
  obtain ⟨tyC, dC, hdC, hdnC⟩ := Cond.laysAt hfound hk Y.cause (a' (.lays cls Bundle.tN "cause" "Ljava/lang/Throwable;") (by simp [nx_atoms]))
  obtain ⟨tyS, dS, hdS, hdnS⟩ := Cond.laysAt hfound hk Y.stack (a' (.lays cls Bundle.tN "stackTrace" Bundle.steD) (by simp [nx_atoms]))
  obtain ⟨tyP, dP, hdP, hdnP⟩ := Cond.laysAt hfound hk Y.supp (a' (.lays cls Bundle.tN "suppressedExceptions" Bundle.listD) (by simp [nx_atoms]))
  obtain ⟨tyM, dM, hdM, hdnM⟩ := Cond.laysAt hfound hk hffM (a' (.lays cls Bundle.tN "detailMessage" "Ljava/lang/String;") (by simp [nx_atoms]))
  obtain ⟨tyB, dB, hdB, hdnB⟩ := Cond.laysAt hfound hk hffB (a' (.lays cls Bundle.tN "backtrace" "Ljava/lang/Object;") (by simp [nx_atoms]))
  have bC := Cond.laysApart hdB hdC hdnB hdnC (by rw [hnB, Y.causeName]; decide)
  have bS := Cond.laysApart hdB hdS hdnB hdnS (by rw [hnB, Y.stackName]; decide)
  have bP := Cond.laysApart hdB hdP hdnB hdnP (by rw [hnB, Y.suppName]; decide)
  have hskip : SkipFacts T e.platform s (fun u => u) u0 ((preparedCellV T.toThrowableT (freshCell P1.m.cls kX) a u0 sen).withEntry W0.cur) :=
    ⟨{ ci198 := ci198, i198 := i198, fBack := fB }, ⟨hk198, hg198, ha198, hsB⟩, by
      have := fresh_default (c := P1.m.cls) tyB
      rw [htB] at this
      simpa [preparedCellV, Cell.setSlot, Cell.withEntry, Array.getElem?_setIfInBounds, bC, bS, bP, bC.symm, bS.symm, bP.symm, defaultValue] using this, fun _ _ => rfl⟩
  obtain ⟨tm, methC, cdC, kC, vm₁, hnC, -, -, -, -, -, -, -, hW₁, st1⟩ := Steps.initColdS (tb := p.tables) (e := e) (below := below) (s := s) (U := W0) X.here hexec X.warmed hpl hown (t := Bundle.initS cls) rfl rfl (Bundle.fit_spec hcls).2
    (a' (.methodLink own ic (Bundle.initS cls)) (by simp [nx_atoms])) (h (.instanceMethod (Bundle.initS cls)) (by simp [nx_atoms, Bundle.passSAtoms])) (bytes := b1) (maxL := 2) (h (.code (Bundle.initS cls) b1 2 none) (by simp [nx_atoms, Bundle.passSAtoms]))
    (f := g) hg (a := a) (msg := msg) (rest := .ref a :: rest) hstack hd6
  cases Option.some.inj (hnC.symm.trans hP1m)
  have X₁ := X.noted hW₁
  obtain ⟨vm₂, X₂, st2⟩ := X₁.ctorMessageOffV hexec (g := { g with stack := .ref a :: rest }) hg hsize T L Z LZ M LM (P1 :: P2 :: Ps)
    (fun P hP => by
      rcases List.mem_cons.mp hP with rfl | hP
      · exact L1
      · rcases List.mem_cons.mp hP with rfl | hP
        · exact L2
        · exact hL P hP) ⟨hlink1, hlink2, hlink⟩ (u0 := u0) (sen := sen) (self := a) hmsg (cell := freshCell P1.m.cls kX) (cellS := cellS)
    hcell (fun _ => by simp) (by simp) rfl rfl hsel0 hselF hcellS hneS hknownS (by rw [hkeep _ (hout' _)]; exact hu0) (by rw [hkeep _ (hout' _)]; exact hsen)
    (Takes.of_laid hk hord tyC (by rw [Y.causeType]; rfl)) (Takes.of_laid hk hord tyS (by rw [Y.stackType]; exact fits_refV_array _ u0)) (Takes.of_laid hk hord tyP (by rw [Y.suppType]; exact fits_refV_object _ sen))
    (Takes.of_laid hk hord tyM (by rw [Y.msgType]; exact fits_refV_object _ ⟨msg, hmsg⟩)) Y.objLocals hskip htr [] hd6
    (by simp only [List.length_cons, hlen]; omega) (by simp only [List.length_cons, hlen]; exact hRl)
  obtain ⟨hwalk, hrun, hended, hWU, hsame⟩ := X₂.athrowLeaves hexec (g := { g with stack := .ref a :: rest, pc := g.pc + 3 }) hg hlocked hentered hout (a := a) (rest := rest) rfl hd9
  have hlt : a < ((W0.setVm vm₁).setVm vm₂).heap.size := (Array.getElem?_eq_some_iff.mp hcell).1
  have hU := heapAt_setCell_self (s := (W0.setVm vm₁).setVm vm₂) (plainBareV T.toThrowableT (freshCell P1.m.cls kX) a u0 sen msg) hlt
  refine ⟨_, st1 _ (fun acts => ?_), hrun, hended, hWU, hsame.weaken (fun y hy hlt' => ?_) (Nat.le_refl _) (Nat.le_refl _), _, hU, rfl, hfound⟩
  · rw [doInvoke_state]
    exact st2 _ hwalk
  · rcases List.mem_append.mp hy with h1 | h1
    · exact h1
    · exfalso
      have hb : y.base = a := by
        simp only [List.mem_cons, List.not_mem_nil, or_false] at h1
        rcases h1 with rfl | rfl | rfl | rfl | rfl <;> rfl
      rw [hb] at hlt'
      exact Nat.not_lt.mpr hnew hlt'
end NXT
def nx_at (own : String) (ic : Nat) (X Y : String) (i1 : Nat) (b1 : ByteArray) (names : List String) : List Cond := (nx_atoms own ic X Y i1 b1 names).filter vx_no
section NXW
variable {p : Program} {l : Launch} {e : Env} {R : Room} {s : State} {m : MethodId} {args : Array Value} {below : List Frame} {meth : Method} {c : Code} {H : Heap} {locs : List Loc} {cells slots mc ms : Nat}
variable {n0 : Nat} {D : va_G} {K : Nat → ClassId} {w w0 : mp_W} {cc : ByteArray} {nL pc : Nat} {c0 : Cond} {own : String} {ls : Array Slot} {rest : List Value} {post : Option Value → mp_W → Prop} {thr : String → mp_W → Prop}
set_option maxHeartbeats 2000000 in
theorem nx_throw (hE : ct_E p m c cc nL s args c0 own D K n0 w0 (mp_A w0 s.heap.size)) (hl : l.stackTraces = false) (hI : mp_I D cl_all (mp_A w0 s.heap.size) s.heap w H locs) {cls sup text : String} {names : List String} {ik is ic i1 : Nat} {b1 : ByteArray} (hcls : Bundle.fit cls = true) (hsup : Bundle.fit sup = true) (hnames : ∀ n ∈ names, Bundle.fit n = true)
    (q0 : decode b1 0 = .ok (.aload_n 0, 1)) (q1 : decode b1 1 = .ok (.aload_n 1, 1)) (q2 : decode b1 2 = .ok (.invokespecial i1, 3)) (q5 : decode b1 5 = .ok (.return_, 1))
    (hk : Cond.classLink own ik cls ∈ gw_l) (hini : Cond.initialized cls ∈ gw_l) (hstr : (own, is, text) ∈ ct_st) (hat : (nx_at own ic cls sup i1 b1 names).all ct_okw = true) (hgood : (Cond.classLink own ik cls :: Cond.initialized cls :: nx_at own ic cls sup i1 b1 names).all vx_ot = true) (hls : ls.size = nL)
    (d0 : decode cc pc = .ok (.new ik, 3)) (d3 : decode cc (pc + 3) = .ok (.dup, 1)) (d4 : decode cc (pc + 4) = .ok (.ldc is, 2)) (d6 : decode cc (pc + 6) = .ok (.invokespecial ic, 3)) (d9 : decode cc (pc + 9) = .ok (.athrow, 1))
    (hout : ∀ x ∈ c.exceptionTable.toList, False) (hRf : names.length + 4 < R.frames) (hRl : (rest.map fun v => v.category).sum + (13 * (names.length + 2) + 43) ≤ R.locals) (hRc : cells + 1 ≤ R.cells) (hRs : slots + 6 ≤ R.slots) (hlk : meth.locks = false) (ht : thr cls w) (hc : cells + 1 ≤ mc) (hs : slots + 6 ≤ ms) :
    W p l e R s m args below meth c H locs cells slots (vx_MQ below (ct_Q D w0 s.heap.size post) (ct_C D w0 s.heap.size thr) args s mc ms (mp_A w0 s.heap.size)) (F0 m pc ls rest) := by
  obtain ⟨sa, hstr1⟩ := hE.2.1.2.2.1.2.2.2.1 _ hstr
  have hAn : ∀ q, mp_A w0 s.heap.size q → n0 ≤ q := hE.2.1.A
  have hexec := hE.1.1.1
  have hb := hE.1.1.2.1
  have hown := hE.1.1.2.2.2.1
  have hsize : ls.size = c.maxLocals := by rw [hE.1.1.2.2.1]; exact hls
  have hU := hE.2.1.2.2.1.2.2.2.2.1.narrow hAn
  have hN := hE.2.1.2.2.1.2.2.2.2.2.narrow hAn
  have hg0 := List.all_eq_true.mp hgood
  have hat0 := ct_okw_at hE hat
  intro T hT X
  have htr : e.platform.stackTraces = false := (show e.platform.stackTraces = l.stackTraces by rw [X.admits.platform]).trans hl
  have Y := vx_rebase X (R' := { frames := R.frames, locals := R.locals, cells := 1, slots := 6 }) (Nat.le_refl _) (Nat.le_refl _) hRc hRs
  obtain ⟨s', hA⟩ : ∃ z, z = (T.setVm s.vm).setFrames (.invoking m args :: below) := ⟨_, rfl⟩
  rw [← hA] at Y
  have hvm : s'.vm = s.vm := by rw [hA]; rfl
  have hhp : s'.heap = H := by rw [hA]; exact hT
  have hW0 : s.WarmedH s'.vm := by rw [hvm]; exact State.WarmedH.refl s
  have hat' : ∀ w ∈ nx_at own ic cls sup i1 b1 names, w.before args s' = true := fun w hw => vx_ot_at hW0 hvm.symm (hg0 w (List.mem_cons_of_mem _ (List.mem_cons_of_mem _ hw))) (hat0 w hw)
  have hk' : (Cond.classLink own ik cls).before args s' = true := vx_ot_at hW0 hvm.symm (hg0 _ List.mem_cons_self) (ct_w hE hk)
  have hini' : (Cond.initialized cls).before args s' = true := vx_ot_at hW0 hvm.symm (hg0 _ (List.mem_cons_of_mem _ List.mem_cons_self)) (ct_w hE hini)
  have hU' : vx_Zq Bundle.tN "UNASSIGNED_STACK" Bundle.steD (mp_A w0 s.heap.size) s' s'.heap := by rw [hhp]; exact vx_Zq.moved hW0.alike (hU.kept hI.2.1.2.1)
  have hN' : vx_Zq Bundle.tN "SUPPRESSED_SENTINEL" Bundle.listD (mp_A w0 s.heap.size) s' s'.heap := by rw [hhp]; exact vx_Zq.moved hW0.alike (hN.kept hI.2.1.2.1)
  have h : ∀ w ∈ nx_atoms own ic cls sup i1 b1 names, w.before args s' = true := vx_own hat' (vx_isRefq hU'.1) (vx_isRefq hN'.1) hU'.2.word hN'.2.word
  have hown' : s'.vm.findClass own = some m.cls := by rw [hvm]; exact hown
  have hins : (Cond.instantiable cls 6).before args s' = true := h _ (by simp [nx_atoms])
  obtain ⟨vm₁, cX, kX, hfX, hkX, -, -, X₁, st1⟩ := Y.newCold hexec (own := own) (C := cls) (index := ik) (n := 6) hown' hk' hins hini'
    (g := F0 m pc ls rest) rfl (by rw [hb]; exact d0) (Nat.le_refl _) (Nat.le_refl _)
  generalize hT1 : (T.setVm vm₁).pushCell { cls := cX, slots := kX.instanceTypes.map defaultValue, vm := .none } = T1 at X₁ st1
  have hcat : (Value.ref T.heap.size).category = 1 := rfl
  have hcellA : T1.heap[T.heap.size]? = some (freshCell cX kX) := by rw [← hT1]; exact State.heap_pushCell_size _ _
  have d3' : decode c.code (pc + 3) = .ok (.dup, 1) := by rw [hb]; exact d3
  have d4' : decode c.code (pc + 4) = .ok (.ldc is, 2) := by rw [hb]; exact d4
  have hstr' : vk_R own is text sa s' := vk_R.warm hW0 hstr1
  obtain ⟨U, hsteps, hrun, hend, hW, hsame, ce, hce, hcv, hcc⟩ := nx_ctor X₁ hexec htr (own := own) (cls := cls) (sup := sup) (names := names) (ic := ic) (i1 := i1) (b1 := b1) hown' hcls hsup hnames h q0 q1 q2 q5 (fun x hx => nomatch hx) hfX hkX hcellA (by rw [hhp, hT]; exact Nat.le_refl _) (msg := .ref sa) rfl
    (g := { method := m, pc := pc + 6, locals := ls, stack := .ref sa :: .ref T.heap.size :: .ref T.heap.size :: rest, locked := none }) rfl hsize rfl rfl (rest := rest) rfl
    (by rw [hb]; exact d6) (by rw [hb]; exact d9) (fun x hx => absurd hx (hout x)) hRf (by show 2 * 0 + (1 + (rest.map fun v => v.category).sum) + (13 * (names.length + 2) + 42) ≤ R.locals; omega) hlk
  obtain ⟨f1, f2⟩ := vx_frame hsame
  rw [hhp] at f1 f2
  have hWs : s.WarmedH U.vm := State.WarmedH.trans hW0 hW
  have hcl : s.vm.findClass cls = some ce.cls := by rw [hvm] at hcc; exact hcc
  have hall : s.sameButNew ({ U with vm := s.vm } : State) locs mc ms := by
    subst hA
    obtain ⟨e1, e2⟩ := hsame
    rw [State.setFrames_setFrames] at e1
    have h2 : (T.setVm s.vm).sameButNew ({ U with vm := s.vm } : State) [] (0 + 1) (0 + 6) := ⟨e1, e2⟩
    have h3 := X.same.trans h2
    rw [List.append_nil] at h3
    exact h3.mono hc hs
  have hxx : ct_C D w0 s.heap.size thr cls s U := by
    have hq : ∀ q : Nat, q < H.size → U.heap[q]? = H[q]? := fun q hq => f2 q hq (fun z hz => nomatch hz)
    obtain ⟨⟨ws, hP, hD, hcv⟩, hS, hA⟩ := id hI
    refine ⟨w, ht, ⟨ws, hP.kept (fun k x hx => hq x.1 (hP k x hx).lt), hD.weaken (fun _ _ _ _ => trivial), hcv⟩, fun a x h => hI.inA h, Nat.le_trans hS.1 f1, fun q h1 h2 => ?_⟩
    rw [hq q (Nat.lt_of_lt_of_le h1 hS.1)]
    exact hS.2.1 q h1 h2
  refine ⟨U, ?_, .threw T.heap.size, hrun, hend, Or.inr ⟨T.heap.size, rfl, cls, ce, locs, hxx, hce, hcv, hcl, hWs, hall, hI.2.1.2.2⟩⟩
  refine st1 _ ?_
  show Steps p.tables e below (T1.setTop { method := m, pc := pc + 3, locals := ls, stack := .ref T.heap.size :: rest, locked := none }) _
  jvm_step X₁.here [X₁.here.top, hexec, d3', Value.category]
  exact X₁.ldcString hexec (own := own) (text := text) (index := is) (a := sa) hown' hstr'.1 hstr'.2
    (g := { method := m, pc := pc + 4, locals := ls, stack := .ref T.heap.size :: .ref T.heap.size :: rest, locked := none }) rfl d4' _ hsteps
end NXW
abbrev nx_N : String := "java/util/NoSuchElementException"
theorem nx_oa : (nx_at nm_B 137 nx_N "java/lang/RuntimeException" 13 prog_21_method_4_code ["java/lang/Exception"]).all ct_okw = true := by decide +kernel
theorem nx_og : (Cond.classLink nm_B 133 nx_N :: Cond.initialized nx_N :: nx_at nm_B 137 nx_N "java/lang/RuntimeException" 13 prog_21_method_4_code ["java/lang/Exception"]).all vx_ot = true := by decide +kernel
theorem nx_d0 : decode prog_21_method_4_code 0 = .ok (.aload_n 0, 1) := by decide +kernel
theorem nx_d1 : decode prog_21_method_4_code 1 = .ok (.aload_n 1, 1) := by decide +kernel
theorem nx_d2 : decode prog_21_method_4_code 2 = .ok (.invokespecial 13, 3) := by decide +kernel
theorem nx_d5 : decode prog_21_method_4_code 5 = .ok (.return_, 1) := by decide +kernel
end
section
/-! constructors: what is made anew; Term(int), Walk(int, int), Workshop(), Text() -/
/-- from w to w' the cells L were made, those of S changed, all others are as they were -/
def fz (S L : List Nat) (w w' : mp_W) : Prop := L.Nodup ∧ (∀ q ∈ L, w q = none ∧ w' q ≠ none) ∧ (∀ q ∈ S, w q ≠ none ∧ w' q ≠ none) ∧ ∀ q, q ∉ L → q ∉ S → w' q = w q
def ke (S : List Nat) (w w' : mp_W) : Prop := ∀ q x, w q = some x → q ∉ S → w' q = some x
theorem fz.kp {S L : List Nat} {w w' : mp_W} (h : fz S L w w') : ke S w w' := by
  intro q x hq hS
  by_cases hL : q ∈ L
  · rw [(h.2.1 q hL).1] at hq; cases hq
  · rw [h.2.2.2 q hL hS]; exact hq
theorem fz.nil {S : List Nat} {w : mp_W} (h : ∀ q ∈ S, w q ≠ none) : fz S [] w w := ⟨List.nodup_nil, fun _ h => (by cases h), fun q hq => ⟨h q hq, h q hq⟩, fun _ _ _ => rfl⟩
theorem fz.tr {S L S' L' : List Nat} {w w1 w2 : mp_W} (h : fz S L w w1) (h2 : fz S' L' w1 w2) (hs : ∀ q ∈ S', q ∈ S ∨ q ∈ L) : fz S (L ++ L') w w2 := by
  obtain ⟨a1, a2, a3, a4⟩ := h
  obtain ⟨b1, b2, b3, b4⟩ := h2
  have hL' : ∀ q ∈ L', q ∉ L ∧ q ∉ S := fun q hq => ⟨fun z => (a2 q z).2 (b2 q hq).1, fun z => (a3 q z).2 (b2 q hq).1⟩
  have hk : ∀ q, w1 q ≠ none → w2 q ≠ none := by
    intro q hq
    by_cases h1 : q ∈ L'
    · exact (b2 q h1).2
    · by_cases h2 : q ∈ S'
      · exact (b3 q h2).2
      · rw [b4 q h1 h2]; exact hq
  refine ⟨?_, fun q hq => ?_, fun q hq => ⟨(a3 q hq).1, hk q (a3 q hq).2⟩, fun q hq hS => ?_⟩
  · rw [List.nodup_append]
    exact ⟨a1, b1, fun x hx y hy e => (hL' y hy).1 (by rw [← e]; exact hx)⟩
  · rcases List.mem_append.mp hq with hq | hq
    · exact ⟨(a2 q hq).1, hk q (a2 q hq).2⟩
    · exact ⟨by rw [← a4 q (hL' q hq).1 (hL' q hq).2]; exact (b2 q hq).1, (b2 q hq).2⟩
  · have h1 : q ∉ L := fun z => hq (List.mem_append_left _ z)
    have h2 : q ∉ L' := fun z => hq (List.mem_append_right _ z)
    have h3 : q ∉ S' := fun z => (hs q z).elim hS h1
    rw [b4 q h2 h3, a4 q h1 hS]
theorem fz.one {S : List Nat} {w : mp_W} {q : Nat} {x : va_E} (hS : ∀ q ∈ S, w q ≠ none) (hq : w q = none) : fz S [q] w (mp_up w q x) := by
  refine ⟨by simp, fun y hy => ?_, fun y hy => ⟨hS y hy, ?_⟩, fun y hy _ => mp_up_ne _ _ (by simpa using hy)⟩
  · have : y = q := by simpa using hy
    subst this
    exact ⟨hq, by rw [mp_up_self]; simp⟩
  · by_cases e : y = q
    · subst e; exact absurd hq (hS y hy)
    · rw [mp_up_ne _ _ e]; exact hS y hy
theorem fz.upd {S : List Nat} {w : mp_W} {q : Nat} {x : va_E} (hS : ∀ y ∈ S, w y ≠ none) (hq : q ∈ S) : fz S [] w (mp_up w q x) := by
  refine ⟨List.nodup_nil, fun _ h => (by cases h), fun y hy => ⟨hS y hy, ?_⟩, fun y _ hy => mp_up_ne _ _ (fun e => hy (by rw [e]; exact hq))⟩
  by_cases e : y = q
  · subst e; rw [mp_up_self]; simp
  · rw [mp_up_ne _ _ e]; exact hS y hy
theorem fz.sub {S S' L : List Nat} {w w' : mp_W} (h : fz S L w w') (hs : ∀ q ∈ S, q ∈ S') (h2 : ∀ q ∈ S', w q ≠ none) : fz S' L w w' := by
  refine ⟨h.1, h.2.1, fun q hq => ⟨h2 q hq, ?_⟩, fun q hL hS => h.2.2.2 q hL (fun z => hS (hs q z))⟩
  by_cases e : q ∈ S
  · exact (h.2.2.1 q e).2
  · by_cases e2 : q ∈ L
    · exact (h.2.1 q e2).2
    · rw [h.2.2.2 q e2 e]; exact h2 q hq
theorem ke.tr {S : List Nat} {w w1 w2 : mp_W} (h : ke S w w1) (h2 : ke S w1 w2) : ke S w w2 := fun q x hq hS => h2 q x (h q x hq hS) hS
theorem pt_W.kp {K : Nat → ClassId} {w w' : mp_W} {k ka fa ff : Nat} {u : List Nat × Nat} {S : List Nat} (h : pt_W K w k ka fa ff u) (ho : ke S w w') (h1 : k ∉ S) (h2 : ka ∉ S) : pt_W K w' k ka fa ff u := by
  obtain ⟨f, a1, a2, a3⟩ := h
  exact ⟨f, ho k _ a1 h1, ho ka _ a2 h2, a3⟩
theorem pt_T.kp {K : Nat → ClassId} {w w' : mp_W} {t ar cap : Nat} {L : List Int} {S : List Nat} (h : pt_T K w t ar cap L) (ho : ke S w w') (h1 : t ∉ S) (h2 : ar ∉ S) : pt_T K w' t ar cap L := by
  obtain ⟨f, a1, a2, a3⟩ := h
  exact ⟨f, ho t _ a1 h1, ho ar _ a2 h2, a3⟩
theorem nd_T : ∀ j, j < 2 → defaultValue (ty_T j) = vp_V [.null, .int 0] j := fun j hj => by
  match j, hj with
  | 0, _ => rfl
  | 1, _ => rfl
theorem nd_W : ∀ j, j < 5 → defaultValue (ty_W j) = vp_V [.int 0, .int 0, .null, .int 0, .int 0] j := fun j hj => by
  match j, hj with
  | 0, _ => rfl
  | 1, _ => rfl
  | 2, _ => rfl
  | 3, _ => rfl
  | 4, _ => rfl
theorem nd_S : ∀ j, j < 5 → defaultValue (ty_S j) = vp_V [.null, .null, .null, .null, .null] j := fun j hj => by
  match j, hj with
  | 0, _ => rfl
  | 1, _ => rfl
  | 2, _ => rfl
  | 3, _ => rfl
  | 4, _ => rfl
theorem nd_X : ∀ j, j < 3 → defaultValue (ty_X j) = vp_V [.null, .int 0, .null] j := fun j hj => by
  match j, hj with
  | 0, _ => rfl
  | 1, _ => rfl
  | 2, _ => rfl
theorem nd_B : ∀ j, j < 3 → defaultValue (ty_B j) = vp_V [.null, .null, .null] j := fun j hj => by
  match j, hj with
  | 0, _ => rfl
  | 1, _ => rfl
  | 2, _ => rfl
section KC1
variable {l : Launch} {n0 : Nat} {D : va_G} {K : Nat → ClassId} {w : mp_W}
set_option maxRecDepth 100000 in
theorem kT_init {t n : Nat} (hT : w t = some (.inr (0, [.null, .int 0]))) (hn0 : n ≤ 2000) : ct_M l n0 D K yT_init (Cond.code yT_init cT_init 2 none) 1 40 1 n [.ref t, .int (nI n)] w (fun v w' => v = none ∧ ∃ q, fz [t] [q] w w' ∧ w' t = some (ob_T q 1) ∧ w' q = some (ob_I K n (fun _ => 0))) := by
  refine ct_go (own := nm_T) (by decide) rfl (Nat.le_of_ble_eq_true rfl) ?_
  intro p e s m below meth c ls hE hI hr hk hn hl
  have hx := hE.1.1.1
  have hb := hE.1.1.2.1
  have hl : lv_has ls 2 [(0, .ref t), (1, .int (nI n))] := hl
  refine lv_aload_n hx hb dT_init_0 rfl (lv_at hl 0 rfl) ?_
  refine W.objInit hx hb hE.1.1.2.2.2.1 (ct_w hE gm_T3) (ct_w hE gi_O_init) (ct_w hE gc_O_init) rfl (by rw [hE.1.1.2.2.1]; exact hl.1) rfl dT_init_1 (Nat.le_of_ble_eq_true rfl) (Nat.le_of_ble_eq_true rfl) ?_
  show W _ _ _ _ _ _ _ _ _ _ _ _ _ _ _ (F0 _ _ _ [])
  refine lv_aload_n hx hb dT_init_4 rfl (lv_at hl 0 rfl) ?_
  refine lv_iload_n hx hb dT_init_5 rfl (lv_at hl 1 rfl) ?_
  refine mp_newa (atype := .int) hE.1 hI (List.mem_cons_of_mem _ ga_int) rfl 0 rfl (a0 := (n, .inl (fun _ => 0))) (fun _ => rfl) (nI_pos (by omega)) (nI_clamp (by omega)) (by show n * 4 ≤ _; omega) (Nat.le_of_ble_eq_true rfl) (by show 0 + n ≤ n; omega) dT_init_6 (fun q H hq0 hI => ?_)
  have htq : t ≠ q := fun z => by rw [z, hq0] at hT; cases hT
  have hT1 : mp_up w q (ob_I K n (fun _ => 0)) t = some (.inr (0, [.null, .int 0])) := by rw [mp_up_ne _ _ htq]; exact hT
  refine mp_put hE.1 hI hT1 rfl gx_T ty_T to_T tn_T 0 (by decide) (List.mem_cons_of_mem _ gf_T9) rfl rfl rfl (Nat.le_of_ble_eq_true rfl) dT_init_8 (fun H locs hI => ?_)
  have hT2 : mp_up (mp_up w q (ob_I K n (fun _ => 0))) t (ob_T q 0) t = some (ob_T q 0) := mp_up_self ..
  refine lv_aload_n hx hb dT_init_11 rfl (lv_at hl 0 rfl) ?_
  refine lv_iconst (v := 1) hx hb dT_init_12 (by decide) ?_
  refine mp_put hE.1 hI hT2 rfl gx_T ty_T to_T tn_T 1 (by decide) (List.mem_cons_of_mem _ gf_T15) rfl rfl rfl (Nat.le_of_ble_eq_true rfl) dT_init_13 (fun H locs hI => ?_)
  have z1 : fz [t] [q] w (mp_up w q (ob_I K n (fun _ => 0))) := fz.one (by intro y hy; simp at hy; subst hy; rw [hT]; simp) hq0
  have z2 : fz [t] [] (mp_up w q (ob_I K n (fun _ => 0))) (mp_up (mp_up w q (ob_I K n (fun _ => 0))) t (ob_T q 0)) := fz.upd (by intro y hy; simp at hy; subst hy; rw [hT1]; simp) (by simp)
  have z3 : fz [t] [] (mp_up (mp_up w q (ob_I K n (fun _ => 0))) t (ob_T q 0)) (mp_up (mp_up (mp_up w q (ob_I K n (fun _ => 0))) t (ob_T q 0)) t (ob_T q 1)) := fz.upd (by intro y hy; simp at hy; subst hy; rw [hT2]; simp) (by simp)
  exact ct_vret hE hI hr hk ⟨rfl, q, (z1.tr z2 (fun _ h => Or.inl h)).tr z3 (fun _ h => Or.inl h), mp_up_self .., by rw [mp_up_ne _ _ (Ne.symm htq), mp_up_ne _ _ (Ne.symm htq)]; exact mp_up_self ..⟩ (by decide) (by omega) dT_init_16
set_option maxRecDepth 100000 in
theorem kW_init {k fa ff : Nat} (hT : w k = some (.inr (2, [.int 0, .int 0, .null, .int 0, .int 0]))) : ct_M l n0 D K yW_init (Cond.code yW_init cW_init 3 none) 1 40 1 150 [.ref k, .int (nI fa), .int (nI ff)] w (fun v w' => v = none ∧ ∃ q, fz [k] [q] w w' ∧ pt_W K w' k q fa ff ([], 0)) := by
  refine ct_go (own := nm_W) (by decide) rfl (Nat.le_of_ble_eq_true rfl) ?_
  intro p e s m below meth c ls hE hI hr hk hn hl
  have hx := hE.1.1.1
  have hb := hE.1.1.2.1
  have hl : lv_has ls 3 [(0, .ref k), (1, .int (nI fa)), (2, .int (nI ff))] := hl
  refine lv_aload_n hx hb dW_init_0 rfl (lv_at hl 0 rfl) ?_
  refine W.objInit hx hb hE.1.1.2.2.2.1 (ct_w hE gm_W3) (ct_w hE gi_O_init) (ct_w hE gc_O_init) rfl (by rw [hE.1.1.2.2.1]; exact hl.1) rfl dW_init_1 (Nat.le_of_ble_eq_true rfl) (Nat.le_of_ble_eq_true rfl) ?_
  show W _ _ _ _ _ _ _ _ _ _ _ _ _ _ _ (F0 _ _ _ [])
  refine lv_aload_n hx hb dW_init_4 rfl (lv_at hl 0 rfl) ?_
  refine lv_iload_n hx hb dW_init_5 rfl (lv_at hl 1 rfl) ?_
  refine mp_putF hE.1 hI hT rfl gx_W ty_W to_W tn_W 0 (by decide) (List.mem_cons_of_mem _ gf_W9) rfl hn rfl rfl rfl (Nat.le_of_ble_eq_true rfl) dW_init_6 (fun H locs hI => ?_)
  obtain ⟨w1, hw1⟩ : ∃ z, mp_up w k (.inr (2, [.int (nI fa), .int 0, .null, .int 0, .int 0])) = z := ⟨_, rfl⟩
  have hI : mp_I D cl_all (mp_A w s.heap.size) s.heap w1 H locs := by rw [← hw1]; exact hI
  have hT1 : w1 k = some (.inr (2, [.int (nI fa), .int 0, .null, .int 0, .int 0])) := by rw [← hw1]; exact mp_up_self ..
  have z1 : fz [k] [] w w1 := by rw [← hw1]; exact fz.upd (by intro y hy; simp at hy; subst hy; rw [hT]; simp) (by simp)
  refine lv_aload_n hx hb dW_init_9 rfl (lv_at hl 0 rfl) ?_
  refine lv_iload_n hx hb dW_init_10 rfl (lv_at hl 2 rfl) ?_
  refine mp_putF hE.1 hI hT1 rfl gx_W ty_W to_W tn_W 1 (by decide) (List.mem_cons_of_mem _ gf_W15) rfl hn rfl rfl rfl (Nat.le_of_ble_eq_true rfl) dW_init_11 (fun H locs hI => ?_)
  obtain ⟨w2, hw2⟩ : ∃ z, mp_up w1 k (.inr (2, [.int (nI fa), .int (nI ff), .null, .int 0, .int 0])) = z := ⟨_, rfl⟩
  have hI : mp_I D cl_all (mp_A w s.heap.size) s.heap w2 H locs := by rw [← hw2]; exact hI
  have hT2 : w2 k = some (.inr (2, [.int (nI fa), .int (nI ff), .null, .int 0, .int 0])) := by rw [← hw2]; exact mp_up_self ..
  have z2 : fz [k] [] w1 w2 := by rw [← hw2]; exact fz.upd (by intro y hy; simp at hy; subst hy; rw [hT1]; simp) (by simp)
  refine lv_aload_n hx hb dW_init_14 rfl (lv_at hl 0 rfl) ?_
  refine lv_sipush (v := nI 150) hx hb dW_init_15 (by decide) ?_
  refine mp_newa (atype := .int) hE.1 hI (List.mem_cons_of_mem _ ga_int) rfl 0 rfl (a0 := (150, .inl (fun _ => 0))) (fun _ => rfl) (nI_pos (by omega)) (nI_clamp (by omega)) (Nat.le_of_ble_eq_true rfl) (Nat.le_of_ble_eq_true rfl) (Nat.le_of_ble_eq_true rfl) dW_init_18 (fun q H hq0 hI => ?_)
  obtain ⟨w3, hw3⟩ : ∃ z, mp_up w2 q (ob_I K 150 (fun _ => 0)) = z := ⟨_, rfl⟩
  have hI : mp_I D cl_all (mp_A w s.heap.size) s.heap w3 H locs := by rw [← hw3]; exact hI
  have htq : k ≠ q := fun z => by rw [z, hq0] at hT2; cases hT2
  have hT3 : w3 k = some (.inr (2, [.int (nI fa), .int (nI ff), .null, .int 0, .int 0])) := by rw [← hw3, mp_up_ne _ _ htq]; exact hT2
  have z3 : fz [k] [q] w2 w3 := by rw [← hw3]; exact fz.one (by intro y hy; simp at hy; subst hy; rw [hT2]; simp) hq0
  refine mp_putF hE.1 hI hT3 rfl gx_W ty_W to_W tn_W 2 (by decide) (List.mem_cons_of_mem _ gf_W18) rfl hn rfl rfl rfl (Nat.le_of_ble_eq_true rfl) dW_init_20 (fun H locs hI => ?_)
  have z4 : fz [k] [] w3 (mp_up w3 k (ob_W fa ff q 0 0)) := fz.upd (by intro y hy; simp at hy; subst hy; rw [hT3]; simp) (by simp)
  have hz := ((z1.tr z2 (fun _ h => Or.inl h)).tr z3 (fun _ h => Or.inl h)).tr z4 (fun _ h => Or.inl h)
  refine ct_vret hE hI hr hk ⟨rfl, q, hz, fun _ => 0, mp_up_self .., ?_, Nat.zero_le _, fun i x h => by simp at h⟩ (by decide) (by decide) dW_init_23
  rw [mp_up_ne _ _ (Ne.symm htq), ← hw3]
  exact mp_up_self ..
end KC1
end
section
/-! constructors: Workshop(), Text() -/
theorem mp_some {w : mp_W} {q : Nat} {x : va_E} (h : w q = some x) : ∀ y ∈ [q], w y ≠ none := by
  intro y hy
  have : y = q := by simpa using hy
  subst this
  rw [h]
  simp
section KC2
variable {l : Launch} {n0 : Nat} {D : va_G} {K : Nat → ClassId} {w : mp_W}
def mk_S (K : Nat → ClassId) (w w' : mp_W) (s : Nat) : Prop := ∃ t1 a1 t2 a2 k1 b1 k2 b2 k3 b3, fz [s] [t1, a1, t2, a2, k1, b1, k2, b2, k3, b3] w w' ∧ w' s = some (.inr (3, [.ref t1, .ref t2, .ref k1, .ref k2, .ref k3])) ∧ w' t1 = some (ob_T a1 1) ∧ w' a1 = some (ob_I K 2000 (fun _ => 0)) ∧ w' t2 = some (ob_T a2 1) ∧ w' a2 = some (ob_I K 2000 (fun _ => 0)) ∧ pt_W K w' k1 b1 1 1 ([], 0) ∧ pt_W K w' k2 b2 0 1 ([], 0) ∧ pt_W K w' k3 b3 0 1 ([], 0)
set_option maxRecDepth 100000 in
set_option maxHeartbeats 1000000 in
theorem kS_init {s0 : Nat} (hS : w s0 = some (.inr (3, [.null, .null, .null, .null, .null]))) : ct_M l n0 D K yS_init (Cond.code yS_init cS_init 1 none) 2 80 10 4469 [.ref s0] w (fun v w' => v = none ∧ mk_S K w w' s0) := by
  refine ct_go (own := nm_S) (by decide) rfl (Nat.le_of_ble_eq_true rfl) ?_
  intro p e s m below meth c ls hE hI hr hk hn hl
  have hx := hE.1.1.1
  have hb := hE.1.1.2.1
  have hl : lv_has ls 1 [(0, .ref s0)] := hl
  refine lv_aload_n hx hb dS_init_0 rfl (lv_at hl 0 rfl) ?_
  refine W.objInit hx hb hE.1.1.2.2.2.1 (ct_w hE gm_S3) (ct_w hE gi_O_init) (ct_w hE gc_O_init) rfl (by rw [hE.1.1.2.2.1]; exact hl.1) rfl dS_init_1 (Nat.le_of_ble_eq_true rfl) (Nat.le_of_ble_eq_true rfl) ?_
  show W _ _ _ _ _ _ _ _ _ _ _ _ _ _ _ (F0 _ _ _ [])
  have z0 : fz [s0] [] w w := fz.nil (mp_some hS)
  have e0 := hS
  refine lv_aload_n hx hb dS_init_4 rfl (lv_at hl 0 rfl) ?_
  refine mp_new (ci := 0) (fs := [.null, .int 0]) hE.1 hI rfl gx_T ty_T to_T (List.mem_cons_of_mem _ gk_S9) (List.mem_cons_of_mem _ gn_T) (List.mem_cons_of_mem _ gz_T) nd_T (Nat.le_of_ble_eq_true rfl) (Nat.le_of_ble_eq_true rfl) dS_init_5 (fun t1 H hq0 hI => ?_)
  obtain ⟨x1, hx1⟩ : ∃ z, mp_up w t1 (.inr (0, [.null, .int 0])) = z := ⟨_, rfl⟩
  have hI : mp_I D cl_all (mp_A w s.heap.size) s.heap x1 H [] := by rw [← hx1]; exact hI
  have zn : fz [s0] [t1] w x1 := by rw [← hx1]; exact fz.one (mp_some e0) hq0
  have ht : x1 t1 = some (.inr (0, [.null, .int 0])) := by rw [← hx1]; exact mp_up_self ..
  refine lv_dup hx hb dS_init_8 rfl ?_
  refine lv_sipush (v := nI 2000) hx hb dS_init_9 (by decide) ?_
  refine ct_In (n := 1) hE hI (kT_init (n := 2000) ht (by decide)) rfl gm_S11 gi_T_init gz_T gc_T_init (by decide +kernel) ⟨Nat.le_of_ble_eq_true rfl, Nat.le_of_ble_eq_true rfl⟩ rfl hl.1 rfl (Nat.le_of_ble_eq_true rfl) dS_init_12 ⟨Nat.le_of_ble_eq_true rfl, Nat.le_of_ble_eq_true rfl⟩ (fun v y1 H locs hq hI => ?_)
  obtain ⟨rfl, a1, zc, hc1, hc2⟩ := hq
  show W _ _ _ _ _ _ _ _ _ _ _ _ _ _ _ (F0 _ _ _ [.ref _, .ref _])
  have zd := zn.tr zc (fun q hq => Or.inr hq)
  have es : y1 s0 = some (.inr (3, [.null, .null, .null, .null, .null])) := by
    have h1 : x1 s0 = some (.inr (3, [.null, .null, .null, .null, .null])) := by rw [← hx1, mp_up_ne _ _ (fun z => by rw [← z, e0] at hq0; cases hq0)]; exact e0
    exact zc.kp _ _ h1 (by simp; intro z; rw [z, ht] at h1; cases h1)
  refine mp_put hE.1 hI es rfl gx_S ty_S to_S tn_S 0 (by decide) (List.mem_cons_of_mem _ gf_S14) rfl rfl rfl (Nat.le_of_ble_eq_true rfl) dS_init_15 (fun H locs hI => ?_)
  obtain ⟨w1, hw1⟩ : ∃ z, mp_up y1 s0 (.inr (3, [.ref t1, .null, .null, .null, .null])) = z := ⟨_, rfl⟩
  have hI : mp_I D cl_all (mp_A w s.heap.size) s.heap w1 H locs := by rw [← hw1]; exact hI
  have e1 : w1 s0 = some (.inr (3, [.ref t1, .null, .null, .null, .null])) := by rw [← hw1]; exact mp_up_self ..
  have zp : fz [s0] [] y1 w1 := by rw [← hw1]; exact fz.upd (mp_some es) (by simp)
  have zw := zd.tr zp (fun q hq => Or.inl hq)
  have z1 := z0.tr zw (fun q hq => Or.inl hq)
  have n0 : t1 ∉ [s0] := by simp; intro z; rw [z, es] at hc1; cases hc1
  have n1 : a1 ∉ [s0] := by simp; intro z; rw [z, es] at hc2; cases hc2
  have q0A := zp.kp _ _ hc1 n0
  have q0B := zp.kp _ _ hc2 n1
  clear zn zc zd zp zw ht hc1 hq0 es hc2
  refine lv_aload_n hx hb dS_init_18 rfl (lv_at hl 0 rfl) ?_
  refine mp_new (ci := 0) (fs := [.null, .int 0]) hE.1 hI rfl gx_T ty_T to_T (List.mem_cons_of_mem _ gk_S9) (List.mem_cons_of_mem _ gn_T) (List.mem_cons_of_mem _ gz_T) nd_T (Nat.le_of_ble_eq_true rfl) (Nat.le_of_ble_eq_true rfl) dS_init_19 (fun t2 H hq0 hI => ?_)
  obtain ⟨x2, hx2⟩ : ∃ z, mp_up w1 t2 (.inr (0, [.null, .int 0])) = z := ⟨_, rfl⟩
  have hI : mp_I D cl_all (mp_A w s.heap.size) s.heap x2 H locs := by rw [← hx2]; exact hI
  have zn : fz [s0] [t2] w1 x2 := by rw [← hx2]; exact fz.one (mp_some e1) hq0
  have ht : x2 t2 = some (.inr (0, [.null, .int 0])) := by rw [← hx2]; exact mp_up_self ..
  refine lv_dup hx hb dS_init_22 rfl ?_
  refine lv_sipush (v := nI 2000) hx hb dS_init_23 (by decide) ?_
  refine ct_In (n := 1) hE hI (kT_init (n := 2000) ht (by decide)) rfl gm_S11 gi_T_init gz_T gc_T_init (by decide +kernel) ⟨Nat.le_of_ble_eq_true rfl, Nat.le_of_ble_eq_true rfl⟩ rfl hl.1 rfl (Nat.le_of_ble_eq_true rfl) dS_init_26 ⟨Nat.le_of_ble_eq_true rfl, Nat.le_of_ble_eq_true rfl⟩ (fun v y2 H locs hq hI => ?_)
  obtain ⟨rfl, a2, zc, hc1, hc2⟩ := hq
  show W _ _ _ _ _ _ _ _ _ _ _ _ _ _ _ (F0 _ _ _ [.ref _, .ref _])
  have zd := zn.tr zc (fun q hq => Or.inr hq)
  have es : y2 s0 = some (.inr (3, [.ref t1, .null, .null, .null, .null])) := by
    have h1 : x2 s0 = some (.inr (3, [.ref t1, .null, .null, .null, .null])) := by rw [← hx2, mp_up_ne _ _ (fun z => by rw [← z, e1] at hq0; cases hq0)]; exact e1
    exact zc.kp _ _ h1 (by simp; intro z; rw [z, ht] at h1; cases h1)
  refine mp_put hE.1 hI es rfl gx_S ty_S to_S tn_S 1 (by decide) (List.mem_cons_of_mem _ gf_S20) rfl rfl rfl (Nat.le_of_ble_eq_true rfl) dS_init_29 (fun H locs hI => ?_)
  obtain ⟨w2, hw2⟩ : ∃ z, mp_up y2 s0 (.inr (3, [.ref t1, .ref t2, .null, .null, .null])) = z := ⟨_, rfl⟩
  have hI : mp_I D cl_all (mp_A w s.heap.size) s.heap w2 H locs := by rw [← hw2]; exact hI
  have e2 : w2 s0 = some (.inr (3, [.ref t1, .ref t2, .null, .null, .null])) := by rw [← hw2]; exact mp_up_self ..
  have zp : fz [s0] [] y2 w2 := by rw [← hw2]; exact fz.upd (mp_some es) (by simp)
  have zw := zd.tr zp (fun q hq => Or.inl hq)
  have z2 := z1.tr zw (fun q hq => Or.inl hq)
  have n2 : t2 ∉ [s0] := by simp; intro z; rw [z, es] at hc1; cases hc1
  have n3 : a2 ∉ [s0] := by simp; intro z; rw [z, es] at hc2; cases hc2
  have q0A := zw.kp _ _ q0A n0
  have q0B := zw.kp _ _ q0B n1
  have q1A := zp.kp _ _ hc1 n2
  have q1B := zp.kp _ _ hc2 n3
  clear zn zc zd zp zw ht hc1 hq0 es hc2
  refine lv_aload_n hx hb dS_init_32 rfl (lv_at hl 0 rfl) ?_
  refine mp_new (ci := 2) (fs := [.int 0, .int 0, .null, .int 0, .int 0]) hE.1 hI rfl gx_W ty_W to_W (List.mem_cons_of_mem _ gk_S23) (List.mem_cons_of_mem _ gn_W) (List.mem_cons_of_mem _ gz_W) nd_W (Nat.le_of_ble_eq_true rfl) (Nat.le_of_ble_eq_true rfl) dS_init_33 (fun k1 H hq0 hI => ?_)
  obtain ⟨x3, hx3⟩ : ∃ z, mp_up w2 k1 (.inr (2, [.int 0, .int 0, .null, .int 0, .int 0])) = z := ⟨_, rfl⟩
  have hI : mp_I D cl_all (mp_A w s.heap.size) s.heap x3 H locs := by rw [← hx3]; exact hI
  have zn : fz [s0] [k1] w2 x3 := by rw [← hx3]; exact fz.one (mp_some e2) hq0
  have ht : x3 k1 = some (.inr (2, [.int 0, .int 0, .null, .int 0, .int 0])) := by rw [← hx3]; exact mp_up_self ..
  refine lv_dup hx hb dS_init_36 rfl ?_
  refine lv_iconst (v := nI 1) hx hb dS_init_37 (by decide) ?_
  refine lv_iconst (v := nI 1) hx hb dS_init_38 (by decide) ?_
  refine ct_In (n := 2) hE hI (kW_init (fa := 1) (ff := 1) ht) rfl gm_S25 gi_W_init gz_W gc_W_init (by decide +kernel) ⟨Nat.le_of_ble_eq_true rfl, Nat.le_of_ble_eq_true rfl⟩ rfl hl.1 rfl (Nat.le_of_ble_eq_true rfl) dS_init_39 ⟨Nat.le_of_ble_eq_true rfl, Nat.le_of_ble_eq_true rfl⟩ (fun v y3 H locs hq hI => ?_)
  obtain ⟨rfl, b1, zc, hc1⟩ := hq
  show W _ _ _ _ _ _ _ _ _ _ _ _ _ _ _ (F0 _ _ _ [.ref _, .ref _])
  have zd := zn.tr zc (fun q hq => Or.inr hq)
  have es : y3 s0 = some (.inr (3, [.ref t1, .ref t2, .null, .null, .null])) := by
    have h1 : x3 s0 = some (.inr (3, [.ref t1, .ref t2, .null, .null, .null])) := by rw [← hx3, mp_up_ne _ _ (fun z => by rw [← z, e2] at hq0; cases hq0)]; exact e2
    exact zc.kp _ _ h1 (by simp; intro z; rw [z, ht] at h1; cases h1)
  refine mp_putF hE.1 hI es rfl gx_S ty_S to_S tn_S 2 (by decide) (List.mem_cons_of_mem _ gf_S28) rfl hn rfl rfl rfl (Nat.le_of_ble_eq_true rfl) dS_init_42 (fun H locs hI => ?_)
  obtain ⟨w3, hw3⟩ : ∃ z, mp_up y3 s0 (.inr (3, [.ref t1, .ref t2, .ref k1, .null, .null])) = z := ⟨_, rfl⟩
  have hI : mp_I D cl_all (mp_A w s.heap.size) s.heap w3 H locs := by rw [← hw3]; exact hI
  have e3 : w3 s0 = some (.inr (3, [.ref t1, .ref t2, .ref k1, .null, .null])) := by rw [← hw3]; exact mp_up_self ..
  have zp : fz [s0] [] y3 w3 := by rw [← hw3]; exact fz.upd (mp_some es) (by simp)
  have zw := zd.tr zp (fun q hq => Or.inl hq)
  have z3 := z2.tr zw (fun q hq => Or.inl hq)
  have n4 : k1 ∉ [s0] := by simp; intro z; obtain ⟨_, r1, _⟩ := hc1; rw [z, es] at r1; cases r1
  have n5 : b1 ∉ [s0] := by simp; intro z; obtain ⟨_, _, r1, _⟩ := hc1; rw [z, es] at r1; cases r1
  have q0A := zw.kp _ _ q0A n0
  have q0B := zw.kp _ _ q0B n1
  have q1A := zw.kp _ _ q1A n2
  have q1B := zw.kp _ _ q1B n3
  have q2 := hc1.kp zp.kp n4 n5
  clear zn zc zd zp zw ht hc1 hq0 es
  refine lv_aload_n hx hb dS_init_45 rfl (lv_at hl 0 rfl) ?_
  refine mp_new (ci := 2) (fs := [.int 0, .int 0, .null, .int 0, .int 0]) hE.1 hI rfl gx_W ty_W to_W (List.mem_cons_of_mem _ gk_S23) (List.mem_cons_of_mem _ gn_W) (List.mem_cons_of_mem _ gz_W) nd_W (Nat.le_of_ble_eq_true rfl) (Nat.le_of_ble_eq_true rfl) dS_init_46 (fun k2 H hq0 hI => ?_)
  obtain ⟨x4, hx4⟩ : ∃ z, mp_up w3 k2 (.inr (2, [.int 0, .int 0, .null, .int 0, .int 0])) = z := ⟨_, rfl⟩
  have hI : mp_I D cl_all (mp_A w s.heap.size) s.heap x4 H locs := by rw [← hx4]; exact hI
  have zn : fz [s0] [k2] w3 x4 := by rw [← hx4]; exact fz.one (mp_some e3) hq0
  have ht : x4 k2 = some (.inr (2, [.int 0, .int 0, .null, .int 0, .int 0])) := by rw [← hx4]; exact mp_up_self ..
  refine lv_dup hx hb dS_init_49 rfl ?_
  refine lv_iconst (v := nI 0) hx hb dS_init_50 (by decide) ?_
  refine lv_iconst (v := nI 1) hx hb dS_init_51 (by decide) ?_
  refine ct_In (n := 2) hE hI (kW_init (fa := 0) (ff := 1) ht) rfl gm_S25 gi_W_init gz_W gc_W_init (by decide +kernel) ⟨Nat.le_of_ble_eq_true rfl, Nat.le_of_ble_eq_true rfl⟩ rfl hl.1 rfl (Nat.le_of_ble_eq_true rfl) dS_init_52 ⟨Nat.le_of_ble_eq_true rfl, Nat.le_of_ble_eq_true rfl⟩ (fun v y4 H locs hq hI => ?_)
  obtain ⟨rfl, b2, zc, hc1⟩ := hq
  show W _ _ _ _ _ _ _ _ _ _ _ _ _ _ _ (F0 _ _ _ [.ref _, .ref _])
  have zd := zn.tr zc (fun q hq => Or.inr hq)
  have es : y4 s0 = some (.inr (3, [.ref t1, .ref t2, .ref k1, .null, .null])) := by
    have h1 : x4 s0 = some (.inr (3, [.ref t1, .ref t2, .ref k1, .null, .null])) := by rw [← hx4, mp_up_ne _ _ (fun z => by rw [← z, e3] at hq0; cases hq0)]; exact e3
    exact zc.kp _ _ h1 (by simp; intro z; rw [z, ht] at h1; cases h1)
  refine mp_putF hE.1 hI es rfl gx_S ty_S to_S tn_S 3 (by decide) (List.mem_cons_of_mem _ gf_S32) rfl hn rfl rfl rfl (Nat.le_of_ble_eq_true rfl) dS_init_55 (fun H locs hI => ?_)
  obtain ⟨w4, hw4⟩ : ∃ z, mp_up y4 s0 (.inr (3, [.ref t1, .ref t2, .ref k1, .ref k2, .null])) = z := ⟨_, rfl⟩
  have hI : mp_I D cl_all (mp_A w s.heap.size) s.heap w4 H locs := by rw [← hw4]; exact hI
  have e4 : w4 s0 = some (.inr (3, [.ref t1, .ref t2, .ref k1, .ref k2, .null])) := by rw [← hw4]; exact mp_up_self ..
  have zp : fz [s0] [] y4 w4 := by rw [← hw4]; exact fz.upd (mp_some es) (by simp)
  have zw := zd.tr zp (fun q hq => Or.inl hq)
  have z4 := z3.tr zw (fun q hq => Or.inl hq)
  have n6 : k2 ∉ [s0] := by simp; intro z; obtain ⟨_, r1, _⟩ := hc1; rw [z, es] at r1; cases r1
  have n7 : b2 ∉ [s0] := by simp; intro z; obtain ⟨_, _, r1, _⟩ := hc1; rw [z, es] at r1; cases r1
  have q0A := zw.kp _ _ q0A n0
  have q0B := zw.kp _ _ q0B n1
  have q1A := zw.kp _ _ q1A n2
  have q1B := zw.kp _ _ q1B n3
  have q2 := q2.kp zw.kp n4 n5
  have q3 := hc1.kp zp.kp n6 n7
  clear zn zc zd zp zw ht hc1 hq0 es
  refine lv_aload_n hx hb dS_init_58 rfl (lv_at hl 0 rfl) ?_
  refine mp_new (ci := 2) (fs := [.int 0, .int 0, .null, .int 0, .int 0]) hE.1 hI rfl gx_W ty_W to_W (List.mem_cons_of_mem _ gk_S23) (List.mem_cons_of_mem _ gn_W) (List.mem_cons_of_mem _ gz_W) nd_W (Nat.le_of_ble_eq_true rfl) (Nat.le_of_ble_eq_true rfl) dS_init_59 (fun k3 H hq0 hI => ?_)
  obtain ⟨x5, hx5⟩ : ∃ z, mp_up w4 k3 (.inr (2, [.int 0, .int 0, .null, .int 0, .int 0])) = z := ⟨_, rfl⟩
  have hI : mp_I D cl_all (mp_A w s.heap.size) s.heap x5 H locs := by rw [← hx5]; exact hI
  have zn : fz [s0] [k3] w4 x5 := by rw [← hx5]; exact fz.one (mp_some e4) hq0
  have ht : x5 k3 = some (.inr (2, [.int 0, .int 0, .null, .int 0, .int 0])) := by rw [← hx5]; exact mp_up_self ..
  refine lv_dup hx hb dS_init_62 rfl ?_
  refine lv_iconst (v := nI 0) hx hb dS_init_63 (by decide) ?_
  refine lv_iconst (v := nI 1) hx hb dS_init_64 (by decide) ?_
  refine ct_In (n := 2) hE hI (kW_init (fa := 0) (ff := 1) ht) rfl gm_S25 gi_W_init gz_W gc_W_init (by decide +kernel) ⟨Nat.le_of_ble_eq_true rfl, Nat.le_of_ble_eq_true rfl⟩ rfl hl.1 rfl (Nat.le_of_ble_eq_true rfl) dS_init_65 ⟨Nat.le_of_ble_eq_true rfl, Nat.le_of_ble_eq_true rfl⟩ (fun v y5 H locs hq hI => ?_)
  obtain ⟨rfl, b3, zc, hc1⟩ := hq
  show W _ _ _ _ _ _ _ _ _ _ _ _ _ _ _ (F0 _ _ _ [.ref _, .ref _])
  have zd := zn.tr zc (fun q hq => Or.inr hq)
  have es : y5 s0 = some (.inr (3, [.ref t1, .ref t2, .ref k1, .ref k2, .null])) := by
    have h1 : x5 s0 = some (.inr (3, [.ref t1, .ref t2, .ref k1, .ref k2, .null])) := by rw [← hx5, mp_up_ne _ _ (fun z => by rw [← z, e4] at hq0; cases hq0)]; exact e4
    exact zc.kp _ _ h1 (by simp; intro z; rw [z, ht] at h1; cases h1)
  refine mp_putF hE.1 hI es rfl gx_S ty_S to_S tn_S 4 (by decide) (List.mem_cons_of_mem _ gf_S35) rfl hn rfl rfl rfl (Nat.le_of_ble_eq_true rfl) dS_init_68 (fun H locs hI => ?_)
  obtain ⟨w5, hw5⟩ : ∃ z, mp_up y5 s0 (.inr (3, [.ref t1, .ref t2, .ref k1, .ref k2, .ref k3])) = z := ⟨_, rfl⟩
  have hI : mp_I D cl_all (mp_A w s.heap.size) s.heap w5 H locs := by rw [← hw5]; exact hI
  have e5 : w5 s0 = some (.inr (3, [.ref t1, .ref t2, .ref k1, .ref k2, .ref k3])) := by rw [← hw5]; exact mp_up_self ..
  have zp : fz [s0] [] y5 w5 := by rw [← hw5]; exact fz.upd (mp_some es) (by simp)
  have zw := zd.tr zp (fun q hq => Or.inl hq)
  have z5 := z4.tr zw (fun q hq => Or.inl hq)
  have n8 : k3 ∉ [s0] := by simp; intro z; obtain ⟨_, r1, _⟩ := hc1; rw [z, es] at r1; cases r1
  have n9 : b3 ∉ [s0] := by simp; intro z; obtain ⟨_, _, r1, _⟩ := hc1; rw [z, es] at r1; cases r1
  have q0A := zw.kp _ _ q0A n0
  have q0B := zw.kp _ _ q0B n1
  have q1A := zw.kp _ _ q1A n2
  have q1B := zw.kp _ _ q1B n3
  have q2 := q2.kp zw.kp n4 n5
  have q3 := q3.kp zw.kp n6 n7
  have q4 := hc1.kp zp.kp n8 n9
  clear zn zc zd zp zw ht hc1 hq0 es
  exact ct_vret hE hI hr hk ⟨rfl, t1, a1, t2, a2, k1, b1, k2, b2, k3, b3, z5, e5, q0A, q0B, q1A, q1B, q2, q3, q4⟩ (by decide) (by decide) dS_init_71
abbrev ob_Y (K : Nat → ClassId) (cap : Nat) (g : Nat → Int32) : va_E := .inl (K 1, cap, .inl g)
def mk_X (K : Nat → ClassId) (w w' : mp_W) (s : Nat) : Prop := ∃ by0 k1 b1, fz [s] [by0, k1, b1] w w' ∧ w' s = some (.inr (1, [.ref by0, .int 0, .ref k1])) ∧ w' by0 = some (ob_Y K 64 (fun _ => 0)) ∧ pt_W K w' k1 b1 1 0 ([], 0)
set_option maxRecDepth 100000 in
set_option maxHeartbeats 1000000 in
theorem kX_init {s0 : Nat} (hS : w s0 = some (.inr (1, [.null, .int 0, .null]))) : ct_M l n0 D K yX_init (Cond.code yX_init cX_init 1 none) 2 80 3 219 [.ref s0] w (fun v w' => v = none ∧ mk_X K w w' s0) := by
  refine ct_go (own := nm_X) (by decide) rfl (Nat.le_of_ble_eq_true rfl) ?_
  intro p e s m below meth c ls hE hI hr hk hn hl
  have hx := hE.1.1.1
  have hb := hE.1.1.2.1
  have hl : lv_has ls 1 [(0, .ref s0)] := hl
  refine lv_aload_n hx hb dX_init_0 rfl (lv_at hl 0 rfl) ?_
  refine W.objInit hx hb hE.1.1.2.2.2.1 (ct_w hE gm_X3) (ct_w hE gi_O_init) (ct_w hE gc_O_init) rfl (by rw [hE.1.1.2.2.1]; exact hl.1) rfl dX_init_1 (Nat.le_of_ble_eq_true rfl) (Nat.le_of_ble_eq_true rfl) ?_
  show W _ _ _ _ _ _ _ _ _ _ _ _ _ _ _ (F0 _ _ _ [])
  refine lv_aload_n hx hb dX_init_4 rfl (lv_at hl 0 rfl) ?_
  refine lv_bipush (v := nI 64) hx hb dX_init_5 (by decide) ?_
  refine mp_newa (atype := .byte) hE.1 hI (List.mem_cons_of_mem _ ga_byte) rfl 1 rfl (a0 := (64, .inl (fun _ => 0))) (fun _ => rfl) (nI_pos (by omega)) (nI_clamp (by omega)) (Nat.le_of_ble_eq_true rfl) (Nat.le_of_ble_eq_true rfl) (Nat.le_of_ble_eq_true rfl) dX_init_7 (fun by0 H hq0 hI => ?_)
  obtain ⟨x1, hx1⟩ : ∃ z, mp_up w by0 (ob_Y K 64 (fun _ => 0)) = z := ⟨_, rfl⟩
  have hI : mp_I D cl_all (mp_A w s.heap.size) s.heap x1 H [] := by rw [← hx1]; exact hI
  have z1 : fz [s0] [by0] w x1 := by rw [← hx1]; exact fz.one (mp_some hS) hq0
  have b1 : x1 by0 = some (ob_Y K 64 (fun _ => 0)) := by rw [← hx1]; exact mp_up_self ..
  have e1 : x1 s0 = some (.inr (1, [.null, .int 0, .null])) := by rw [← hx1, mp_up_ne _ _ (fun z => by rw [← z, hS] at hq0; cases hq0)]; exact hS
  have nb : by0 ∉ [s0] := by simp; intro z; rw [z, e1] at b1; cases b1
  refine mp_put hE.1 hI e1 rfl gx_X ty_X to_X tn_X 0 (by decide) (List.mem_cons_of_mem _ gf_X9) rfl rfl rfl (Nat.le_of_ble_eq_true rfl) dX_init_9 (fun H locs hI => ?_)
  obtain ⟨x2, hx2⟩ : ∃ z, mp_up x1 s0 (.inr (1, [.ref by0, .int 0, .null])) = z := ⟨_, rfl⟩
  have hI : mp_I D cl_all (mp_A w s.heap.size) s.heap x2 H locs := by rw [← hx2]; exact hI
  have z2 : fz [s0] [] x1 x2 := by rw [← hx2]; exact fz.upd (mp_some e1) (by simp)
  have e2 : x2 s0 = some (.inr (1, [.ref by0, .int 0, .null])) := by rw [← hx2]; exact mp_up_self ..
  have b2 := z2.kp _ _ b1 nb
  refine lv_aload_n hx hb dX_init_12 rfl (lv_at hl 0 rfl) ?_
  refine lv_iconst (v := 0) hx hb dX_init_13 (by decide) ?_
  refine mp_put hE.1 hI e2 rfl gx_X ty_X to_X tn_X 1 (by decide) (List.mem_cons_of_mem _ gf_X15) rfl rfl rfl (Nat.le_of_ble_eq_true rfl) dX_init_14 (fun H locs hI => ?_)
  obtain ⟨x3, hx3⟩ : ∃ z, mp_up x2 s0 (.inr (1, [.ref by0, .int 0, .null])) = z := ⟨_, rfl⟩
  have hI : mp_I D cl_all (mp_A w s.heap.size) s.heap x3 H locs := by rw [← hx3]; exact hI
  have z3 : fz [s0] [] x2 x3 := by rw [← hx3]; exact fz.upd (mp_some e2) (by simp)
  have e3 : x3 s0 = some (.inr (1, [.ref by0, .int 0, .null])) := by rw [← hx3]; exact mp_up_self ..
  have b3 := z3.kp _ _ b2 nb
  refine lv_aload_n hx hb dX_init_17 rfl (lv_at hl 0 rfl) ?_
  refine mp_new (ci := 2) (fs := [.int 0, .int 0, .null, .int 0, .int 0]) hE.1 hI rfl gx_W ty_W to_W (List.mem_cons_of_mem _ gk_X19) (List.mem_cons_of_mem _ gn_W) (List.mem_cons_of_mem _ gz_W) nd_W (Nat.le_of_ble_eq_true rfl) (Nat.le_of_ble_eq_true rfl) dX_init_18 (fun k1 H hq0 hI => ?_)
  obtain ⟨x4, hx4⟩ : ∃ z, mp_up x3 k1 (.inr (2, [.int 0, .int 0, .null, .int 0, .int 0])) = z := ⟨_, rfl⟩
  have hI : mp_I D cl_all (mp_A w s.heap.size) s.heap x4 H locs := by rw [← hx4]; exact hI
  have z4 : fz [s0] [k1] x3 x4 := by rw [← hx4]; exact fz.one (mp_some e3) hq0
  have ht : x4 k1 = some (.inr (2, [.int 0, .int 0, .null, .int 0, .int 0])) := by rw [← hx4]; exact mp_up_self ..
  have e4 : x4 s0 = some (.inr (1, [.ref by0, .int 0, .null])) := by rw [← hx4, mp_up_ne _ _ (fun z => by rw [← z, e3] at hq0; cases hq0)]; exact e3
  have b4 := z4.kp _ _ b3 nb
  refine lv_dup hx hb dX_init_21 rfl ?_
  refine lv_iconst (v := nI 1) hx hb dX_init_22 (by decide) ?_
  refine lv_iconst (v := nI 0) hx hb dX_init_23 (by decide) ?_
  refine ct_In (n := 2) hE hI (kW_init (fa := 1) (ff := 0) ht) rfl gm_X21 gi_W_init gz_W gc_W_init (by decide +kernel) ⟨Nat.le_of_ble_eq_true rfl, Nat.le_of_ble_eq_true rfl⟩ rfl hl.1 rfl (Nat.le_of_ble_eq_true rfl) dX_init_24 ⟨Nat.le_of_ble_eq_true rfl, Nat.le_of_ble_eq_true rfl⟩ (fun v x5 H locs hq hI => ?_)
  obtain ⟨rfl, kr, zc, hc1⟩ := hq
  show W _ _ _ _ _ _ _ _ _ _ _ _ _ _ _ (F0 _ _ _ [.ref _, .ref _])
  have e5 := zc.kp _ _ e4 (by simp; intro z; rw [z, ht] at e4; cases e4)
  have b5 := zc.kp _ _ b4 (by simp; intro z; rw [z, ht] at b4; cases b4)
  refine mp_putF hE.1 hI e5 rfl gx_X ty_X to_X tn_X 2 (by decide) (List.mem_cons_of_mem _ gf_X24) rfl hn rfl rfl rfl (Nat.le_of_ble_eq_true rfl) dX_init_27 (fun H locs hI => ?_)
  have z6 : fz [s0] [] x5 (mp_up x5 s0 (.inr (1, [.ref by0, .int 0, .ref k1]))) := fz.upd (mp_some e5) (by simp)
  have n1 : k1 ∉ [s0] := by simp; intro z; obtain ⟨_, r1, _⟩ := hc1; rw [z, e5] at r1; cases r1
  have n2 : kr ∉ [s0] := by simp; intro z; obtain ⟨_, _, r1, _⟩ := hc1; rw [z, e5] at r1; cases r1
  have hz := (((z1.tr z2 (fun q hq => Or.inl hq)).tr z3 (fun q hq => Or.inl hq)).tr (z4.tr zc (fun q hq => Or.inr hq)) (fun q hq => Or.inl hq)).tr z6 (fun q hq => Or.inl hq)
  exact ct_vret hE hI hr hk ⟨rfl, by0, k1, kr, hz, mp_up_self .., z6.kp _ _ b5 nb, hc1.kp z6.kp n1 n2⟩ (by decide) (by decide) dX_init_30
end KC2
end
section
theorem dB_init_0 : decode cB_init 0 = .ok (.aload_n 0, 1) := by decide +kernel
theorem dB_init_1 : decode cB_init 1 = .ok (.invokespecial 1, 3) := by decide +kernel
theorem dB_init_4 : decode cB_init 4 = .ok (.aload_n 0, 1) := by decide +kernel
theorem dB_init_5 : decode cB_init 5 = .ok (.bipush 16, 2) := by decide +kernel
theorem dB_init_7 : decode cB_init 7 = .ok (.anewarray 9, 3) := by decide +kernel
theorem dB_init_10 : decode cB_init 10 = .ok (.putfield 11, 3) := by decide +kernel
theorem dB_init_13 : decode cB_init 13 = .ok (.iconst 0, 1) := by decide +kernel
theorem dB_init_14 : decode cB_init 14 = .ok (.istore_n 1, 1) := by decide +kernel
theorem dB_init_15 : decode cB_init 15 = .ok (.iload_n 1, 1) := by decide +kernel
theorem dB_init_16 : decode cB_init 16 = .ok (.bipush 16, 2) := by decide +kernel
theorem dB_init_18 : decode cB_init 18 = .ok (.if_icmp .ge 24, 3) := by decide +kernel
theorem dB_init_21 : decode cB_init 21 = .ok (.aload_n 0, 1) := by decide +kernel
theorem dB_init_22 : decode cB_init 22 = .ok (.getfield 11, 3) := by decide +kernel
theorem dB_init_25 : decode cB_init 25 = .ok (.iload_n 1, 1) := by decide +kernel
theorem dB_init_26 : decode cB_init 26 = .ok (.new 9, 3) := by decide +kernel
theorem dB_init_29 : decode cB_init 29 = .ok (.dup, 1) := by decide +kernel
theorem dB_init_30 : decode cB_init 30 = .ok (.bipush 8, 2) := by decide +kernel
theorem dB_init_32 : decode cB_init 32 = .ok (.invokespecial 15, 3) := by decide +kernel
theorem dB_init_35 : decode cB_init 35 = .ok (.aastore, 1) := by decide +kernel
theorem dB_init_36 : decode cB_init 36 = .ok (.iinc 1 1, 3) := by decide +kernel
theorem dB_init_39 : decode cB_init 39 = .ok (.goto (-24), 3) := by decide +kernel
theorem dB_init_42 : decode cB_init 42 = .ok (.aload_n 0, 1) := by decide +kernel
theorem dB_init_43 : decode cB_init 43 = .ok (.new 18, 3) := by decide +kernel
theorem dB_init_46 : decode cB_init 46 = .ok (.dup, 1) := by decide +kernel
theorem dB_init_47 : decode cB_init 47 = .ok (.invokespecial 20, 3) := by decide +kernel
theorem dB_init_50 : decode cB_init 50 = .ok (.putfield 21, 3) := by decide +kernel
theorem dB_init_53 : decode cB_init 53 = .ok (.aload_n 0, 1) := by decide +kernel
theorem dB_init_54 : decode cB_init 54 = .ok (.new 25, 3) := by decide +kernel
theorem dB_init_57 : decode cB_init 57 = .ok (.dup, 1) := by decide +kernel
theorem dB_init_58 : decode cB_init 58 = .ok (.invokespecial 27, 3) := by decide +kernel
theorem dB_init_61 : decode cB_init 61 = .ok (.putfield 28, 3) := by decide +kernel
theorem dB_init_64 : decode cB_init 64 = .ok (.return_, 1) := by decide +kernel
theorem dB_free_0 : decode cB_free 0 = .ok (.aload_n 0, 1) := by decide +kernel
theorem dB_free_1 : decode cB_free 1 = .ok (.iload_n 1, 1) := by decide +kernel
theorem dB_free_2 : decode cB_free 2 = .ok (.invokevirtual 32, 3) := by decide +kernel
theorem dB_free_5 : decode cB_free 5 = .ok (.astore_n 3, 1) := by decide +kernel
theorem dB_free_6 : decode cB_free 6 = .ok (.iload_n 2, 1) := by decide +kernel
theorem dB_free_7 : decode cB_free 7 = .ok (.invokestatic 36, 3) := by decide +kernel
theorem dB_free_10 : decode cB_free 10 = .ok (.aload_n 3, 1) := by decide +kernel
theorem dB_free_11 : decode cB_free 11 = .ok (.iload_n 2, 1) := by decide +kernel
theorem dB_free_12 : decode cB_free 12 = .ok (.invokevirtual 39, 3) := by decide +kernel
theorem dB_free_15 : decode cB_free 15 = .ok (.return_, 1) := by decide +kernel
theorem dB_apply_0 : decode cB_apply 0 = .ok (.aload_n 0, 1) := by decide +kernel
theorem dB_apply_1 : decode cB_apply 1 = .ok (.iload_n 1, 1) := by decide +kernel
theorem dB_apply_2 : decode cB_apply 2 = .ok (.invokevirtual 32, 3) := by decide +kernel
theorem dB_apply_5 : decode cB_apply 5 = .ok (.astore 4, 2) := by decide +kernel
theorem dB_apply_7 : decode cB_apply 7 = .ok (.aload 4, 2) := by decide +kernel
theorem dB_apply_9 : decode cB_apply 9 = .ok (.aload_n 0, 1) := by decide +kernel
theorem dB_apply_10 : decode cB_apply 10 = .ok (.getfield 21, 3) := by decide +kernel
theorem dB_apply_13 : decode cB_apply 13 = .ok (.aload_n 0, 1) := by decide +kernel
theorem dB_apply_14 : decode cB_apply 14 = .ok (.iload_n 2, 1) := by decide +kernel
theorem dB_apply_15 : decode cB_apply 15 = .ok (.invokevirtual 32, 3) := by decide +kernel
theorem dB_apply_18 : decode cB_apply 18 = .ok (.aload_n 0, 1) := by decide +kernel
theorem dB_apply_19 : decode cB_apply 19 = .ok (.iload_n 3, 1) := by decide +kernel
theorem dB_apply_20 : decode cB_apply 20 = .ok (.invokevirtual 32, 3) := by decide +kernel
theorem dB_apply_23 : decode cB_apply 23 = .ok (.invokevirtual 42, 3) := by decide +kernel
theorem dB_apply_26 : decode cB_apply 26 = .ok (.invokevirtual 46, 3) := by decide +kernel
theorem dB_apply_29 : decode cB_apply 29 = .ok (.ireturn, 1) := by decide +kernel
theorem dB_bind_0 : decode cB_bind 0 = .ok (.aload_n 0, 1) := by decide +kernel
theorem dB_bind_1 : decode cB_bind 1 = .ok (.iload_n 1, 1) := by decide +kernel
theorem dB_bind_2 : decode cB_bind 2 = .ok (.invokevirtual 32, 3) := by decide +kernel
theorem dB_bind_5 : decode cB_bind 5 = .ok (.astore 4, 2) := by decide +kernel
theorem dB_bind_7 : decode cB_bind 7 = .ok (.aload_n 0, 1) := by decide +kernel
theorem dB_bind_8 : decode cB_bind 8 = .ok (.iload_n 2, 1) := by decide +kernel
theorem dB_bind_9 : decode cB_bind 9 = .ok (.invokevirtual 32, 3) := by decide +kernel
theorem dB_bind_12 : decode cB_bind 12 = .ok (.astore 5, 2) := by decide +kernel
theorem dB_bind_14 : decode cB_bind 14 = .ok (.iload_n 3, 1) := by decide +kernel
theorem dB_bind_15 : decode cB_bind 15 = .ok (.invokestatic 36, 3) := by decide +kernel
theorem dB_bind_18 : decode cB_bind 18 = .ok (.aload 4, 2) := by decide +kernel
theorem dB_bind_20 : decode cB_bind 20 = .ok (.aload_n 0, 1) := by decide +kernel
theorem dB_bind_21 : decode cB_bind 21 = .ok (.getfield 21, 3) := by decide +kernel
theorem dB_bind_24 : decode cB_bind 24 = .ok (.aload 5, 2) := by decide +kernel
theorem dB_bind_26 : decode cB_bind 26 = .ok (.iload_n 3, 1) := by decide +kernel
theorem dB_bind_27 : decode cB_bind 27 = .ok (.invokevirtual 50, 3) := by decide +kernel
theorem dB_bind_30 : decode cB_bind 30 = .ok (.invokevirtual 46, 3) := by decide +kernel
theorem dB_bind_33 : decode cB_bind 33 = .ok (.ireturn, 1) := by decide +kernel
theorem dB_put_0 : decode cB_put 0 = .ok (.aload_n 0, 1) := by decide +kernel
theorem dB_put_1 : decode cB_put 1 = .ok (.iload_n 1, 1) := by decide +kernel
theorem dB_put_2 : decode cB_put 2 = .ok (.invokevirtual 32, 3) := by decide +kernel
theorem dB_put_5 : decode cB_put 5 = .ok (.astore 5, 2) := by decide +kernel
theorem dB_put_7 : decode cB_put 7 = .ok (.aload_n 0, 1) := by decide +kernel
theorem dB_put_8 : decode cB_put 8 = .ok (.iload_n 2, 1) := by decide +kernel
theorem dB_put_9 : decode cB_put 9 = .ok (.invokevirtual 32, 3) := by decide +kernel
theorem dB_put_12 : decode cB_put 12 = .ok (.astore 6, 2) := by decide +kernel
theorem dB_put_14 : decode cB_put 14 = .ok (.iload_n 3, 1) := by decide +kernel
theorem dB_put_15 : decode cB_put 15 = .ok (.invokestatic 36, 3) := by decide +kernel
theorem dB_put_18 : decode cB_put 18 = .ok (.aload 5, 2) := by decide +kernel
theorem dB_put_20 : decode cB_put 20 = .ok (.aload_n 0, 1) := by decide +kernel
theorem dB_put_21 : decode cB_put 21 = .ok (.getfield 21, 3) := by decide +kernel
theorem dB_put_24 : decode cB_put 24 = .ok (.aload 6, 2) := by decide +kernel
theorem dB_put_26 : decode cB_put 26 = .ok (.iload_n 3, 1) := by decide +kernel
theorem dB_put_27 : decode cB_put 27 = .ok (.aload_n 0, 1) := by decide +kernel
theorem dB_put_28 : decode cB_put 28 = .ok (.iload 4, 2) := by decide +kernel
theorem dB_put_30 : decode cB_put 30 = .ok (.invokevirtual 32, 3) := by decide +kernel
theorem dB_put_33 : decode cB_put 33 = .ok (.invokevirtual 54, 3) := by decide +kernel
theorem dB_put_36 : decode cB_put 36 = .ok (.invokevirtual 46, 3) := by decide +kernel
theorem dB_put_39 : decode cB_put 39 = .ok (.ireturn, 1) := by decide +kernel
theorem dB_open_0 : decode cB_open 0 = .ok (.aload_n 0, 1) := by decide +kernel
theorem dB_open_1 : decode cB_open 1 = .ok (.iload_n 1, 1) := by decide +kernel
theorem dB_open_2 : decode cB_open 2 = .ok (.invokevirtual 32, 3) := by decide +kernel
theorem dB_open_5 : decode cB_open 5 = .ok (.astore 4, 2) := by decide +kernel
theorem dB_open_7 : decode cB_open 7 = .ok (.aload_n 0, 1) := by decide +kernel
theorem dB_open_8 : decode cB_open 8 = .ok (.iload_n 2, 1) := by decide +kernel
theorem dB_open_9 : decode cB_open 9 = .ok (.invokevirtual 32, 3) := by decide +kernel
theorem dB_open_12 : decode cB_open 12 = .ok (.astore 5, 2) := by decide +kernel
theorem dB_open_14 : decode cB_open 14 = .ok (.aload_n 0, 1) := by decide +kernel
theorem dB_open_15 : decode cB_open 15 = .ok (.iload_n 3, 1) := by decide +kernel
theorem dB_open_16 : decode cB_open 16 = .ok (.invokevirtual 32, 3) := by decide +kernel
theorem dB_open_19 : decode cB_open 19 = .ok (.astore 6, 2) := by decide +kernel
theorem dB_open_21 : decode cB_open 21 = .ok (.aload 5, 2) := by decide +kernel
theorem dB_open_23 : decode cB_open 23 = .ok (.invokevirtual 58, 3) := by decide +kernel
theorem dB_open_26 : decode cB_open 26 = .ok (.bipush (-2), 2) := by decide +kernel
theorem dB_open_28 : decode cB_open 28 = .ok (.if_icmp .eq 13, 3) := by decide +kernel
theorem dB_open_31 : decode cB_open 31 = .ok (.new 62, 3) := by decide +kernel
theorem dB_open_34 : decode cB_open 34 = .ok (.dup, 1) := by decide +kernel
theorem dB_open_35 : decode cB_open 35 = .ok (.ldc 64, 2) := by decide +kernel
theorem dB_open_37 : decode cB_open 37 = .ok (.invokespecial 66, 3) := by decide +kernel
theorem dB_open_40 : decode cB_open 40 = .ok (.athrow, 1) := by decide +kernel
theorem dB_open_41 : decode cB_open 41 = .ok (.aload 4, 2) := by decide +kernel
theorem dB_open_43 : decode cB_open 43 = .ok (.aload_n 0, 1) := by decide +kernel
theorem dB_open_44 : decode cB_open 44 = .ok (.getfield 21, 3) := by decide +kernel
theorem dB_open_47 : decode cB_open 47 = .ok (.aload 5, 2) := by decide +kernel
theorem dB_open_49 : decode cB_open 49 = .ok (.aload 6, 2) := by decide +kernel
theorem dB_open_51 : decode cB_open 51 = .ok (.invokevirtual 69, 3) := by decide +kernel
theorem dB_open_54 : decode cB_open 54 = .ok (.invokevirtual 46, 3) := by decide +kernel
theorem dB_open_57 : decode cB_open 57 = .ok (.ireturn, 1) := by decide +kernel
theorem dB_part_0 : decode cB_part 0 = .ok (.aload_n 0, 1) := by decide +kernel
theorem dB_part_1 : decode cB_part 1 = .ok (.iload_n 1, 1) := by decide +kernel
theorem dB_part_2 : decode cB_part 2 = .ok (.invokevirtual 32, 3) := by decide +kernel
theorem dB_part_5 : decode cB_part 5 = .ok (.astore 4, 2) := by decide +kernel
theorem dB_part_7 : decode cB_part 7 = .ok (.aload_n 0, 1) := by decide +kernel
theorem dB_part_8 : decode cB_part 8 = .ok (.iload_n 2, 1) := by decide +kernel
theorem dB_part_9 : decode cB_part 9 = .ok (.invokevirtual 32, 3) := by decide +kernel
theorem dB_part_12 : decode cB_part 12 = .ok (.astore 5, 2) := by decide +kernel
theorem dB_part_14 : decode cB_part 14 = .ok (.aload 5, 2) := by decide +kernel
theorem dB_part_16 : decode cB_part 16 = .ok (.invokevirtual 58, 3) := by decide +kernel
theorem dB_part_19 : decode cB_part 19 = .ok (.iconst (-1), 1) := by decide +kernel
theorem dB_part_20 : decode cB_part 20 = .ok (.if_icmp .eq 13, 3) := by decide +kernel
theorem dB_part_23 : decode cB_part 23 = .ok (.new 62, 3) := by decide +kernel
theorem dB_part_26 : decode cB_part 26 = .ok (.dup, 1) := by decide +kernel
theorem dB_part_27 : decode cB_part 27 = .ok (.ldc 72, 2) := by decide +kernel
theorem dB_part_29 : decode cB_part 29 = .ok (.invokespecial 66, 3) := by decide +kernel
theorem dB_part_32 : decode cB_part 32 = .ok (.athrow, 1) := by decide +kernel
theorem dB_part_33 : decode cB_part 33 = .ok (.aload 4, 2) := by decide +kernel
theorem dB_part_35 : decode cB_part 35 = .ok (.aload_n 0, 1) := by decide +kernel
theorem dB_part_36 : decode cB_part 36 = .ok (.getfield 21, 3) := by decide +kernel
theorem dB_part_39 : decode cB_part 39 = .ok (.aload 5, 2) := by decide +kernel
theorem dB_part_41 : decode cB_part 41 = .ok (.iload_n 3, 1) := by decide +kernel
theorem dB_part_42 : decode cB_part 42 = .ok (.invokevirtual 74, 3) := by decide +kernel
theorem dB_part_45 : decode cB_part 45 = .ok (.invokevirtual 46, 3) := by decide +kernel
theorem dB_part_48 : decode cB_part 48 = .ok (.pop, 1) := by decide +kernel
theorem dB_part_49 : decode cB_part 49 = .ok (.return_, 1) := by decide +kernel
theorem dB_step_0 : decode cB_step 0 = .ok (.aload_n 0, 1) := by decide +kernel
theorem dB_step_1 : decode cB_step 1 = .ok (.iload_n 1, 1) := by decide +kernel
theorem dB_step_2 : decode cB_step 2 = .ok (.invokevirtual 32, 3) := by decide +kernel
theorem dB_step_5 : decode cB_step 5 = .ok (.astore_n 3, 1) := by decide +kernel
theorem dB_step_6 : decode cB_step 6 = .ok (.aload_n 0, 1) := by decide +kernel
theorem dB_step_7 : decode cB_step 7 = .ok (.iload_n 2, 1) := by decide +kernel
theorem dB_step_8 : decode cB_step 8 = .ok (.invokevirtual 32, 3) := by decide +kernel
theorem dB_step_11 : decode cB_step 11 = .ok (.astore 4, 2) := by decide +kernel
theorem dB_step_13 : decode cB_step 13 = .ok (.aload 4, 2) := by decide +kernel
theorem dB_step_15 : decode cB_step 15 = .ok (.iconst 0, 1) := by decide +kernel
theorem dB_step_16 : decode cB_step 16 = .ok (.invokevirtual 78, 3) := by decide +kernel
theorem dB_step_19 : decode cB_step 19 = .ok (.istore 5, 2) := by decide +kernel
theorem dB_step_21 : decode cB_step 21 = .ok (.iload 5, 2) := by decide +kernel
theorem dB_step_23 : decode cB_step 23 = .ok (.iconst (-1), 1) := by decide +kernel
theorem dB_step_24 : decode cB_step 24 = .ok (.if_icmp .ne 12, 3) := by decide +kernel
theorem dB_step_27 : decode cB_step 27 = .ok (.aload_n 3, 1) := by decide +kernel
theorem dB_step_28 : decode cB_step 28 = .ok (.aload 4, 2) := by decide +kernel
theorem dB_step_30 : decode cB_step 30 = .ok (.invokevirtual 46, 3) := by decide +kernel
theorem dB_step_33 : decode cB_step 33 = .ok (.pop, 1) := by decide +kernel
theorem dB_step_34 : decode cB_step 34 = .ok (.iconst 0, 1) := by decide +kernel
theorem dB_step_35 : decode cB_step 35 = .ok (.ireturn, 1) := by decide +kernel
theorem dB_step_36 : decode cB_step 36 = .ok (.aload_n 3, 1) := by decide +kernel
theorem dB_step_37 : decode cB_step 37 = .ok (.aload_n 0, 1) := by decide +kernel
theorem dB_step_38 : decode cB_step 38 = .ok (.getfield 21, 3) := by decide +kernel
theorem dB_step_41 : decode cB_step 41 = .ok (.aload 4, 2) := by decide +kernel
theorem dB_step_43 : decode cB_step 43 = .ok (.iload 5, 2) := by decide +kernel
theorem dB_step_45 : decode cB_step 45 = .ok (.invokevirtual 82, 3) := by decide +kernel
theorem dB_step_48 : decode cB_step 48 = .ok (.invokevirtual 46, 3) := by decide +kernel
theorem dB_step_51 : decode cB_step 51 = .ok (.pop, 1) := by decide +kernel
theorem dB_step_52 : decode cB_step 52 = .ok (.iconst 1, 1) := by decide +kernel
theorem dB_step_53 : decode cB_step 53 = .ok (.ireturn, 1) := by decide +kernel
theorem dB_head_0 : decode cB_head 0 = .ok (.aload_n 0, 1) := by decide +kernel
theorem dB_head_1 : decode cB_head 1 = .ok (.iload_n 1, 1) := by decide +kernel
theorem dB_head_2 : decode cB_head 2 = .ok (.invokevirtual 32, 3) := by decide +kernel
theorem dB_head_5 : decode cB_head 5 = .ok (.astore_n 3, 1) := by decide +kernel
theorem dB_head_6 : decode cB_head 6 = .ok (.aload_n 0, 1) := by decide +kernel
theorem dB_head_7 : decode cB_head 7 = .ok (.getfield 21, 3) := by decide +kernel
theorem dB_head_10 : decode cB_head 10 = .ok (.aload_n 0, 1) := by decide +kernel
theorem dB_head_11 : decode cB_head 11 = .ok (.iload_n 2, 1) := by decide +kernel
theorem dB_head_12 : decode cB_head 12 = .ok (.invokevirtual 32, 3) := by decide +kernel
theorem dB_head_15 : decode cB_head 15 = .ok (.iconst 1, 1) := by decide +kernel
theorem dB_head_16 : decode cB_head 16 = .ok (.invokevirtual 85, 3) := by decide +kernel
theorem dB_head_19 : decode cB_head 19 = .ok (.istore 4, 2) := by decide +kernel
theorem dB_head_21 : decode cB_head 21 = .ok (.aload_n 3, 1) := by decide +kernel
theorem dB_head_22 : decode cB_head 22 = .ok (.aload_n 0, 1) := by decide +kernel
theorem dB_head_23 : decode cB_head 23 = .ok (.getfield 21, 3) := by decide +kernel
theorem dB_head_26 : decode cB_head 26 = .ok (.invokevirtual 89, 3) := by decide +kernel
theorem dB_head_29 : decode cB_head 29 = .ok (.invokevirtual 46, 3) := by decide +kernel
theorem dB_head_32 : decode cB_head 32 = .ok (.pop, 1) := by decide +kernel
theorem dB_head_33 : decode cB_head 33 = .ok (.iload 4, 2) := by decide +kernel
theorem dB_head_35 : decode cB_head 35 = .ok (.ireturn, 1) := by decide +kernel
theorem dB_normal_0 : decode cB_normal 0 = .ok (.aload_n 0, 1) := by decide +kernel
theorem dB_normal_1 : decode cB_normal 1 = .ok (.iload_n 1, 1) := by decide +kernel
theorem dB_normal_2 : decode cB_normal 2 = .ok (.invokevirtual 32, 3) := by decide +kernel
theorem dB_normal_5 : decode cB_normal 5 = .ok (.astore_n 3, 1) := by decide +kernel
theorem dB_normal_6 : decode cB_normal 6 = .ok (.aload_n 0, 1) := by decide +kernel
theorem dB_normal_7 : decode cB_normal 7 = .ok (.getfield 21, 3) := by decide +kernel
theorem dB_normal_10 : decode cB_normal 10 = .ok (.aload_n 0, 1) := by decide +kernel
theorem dB_normal_11 : decode cB_normal 11 = .ok (.iload_n 2, 1) := by decide +kernel
theorem dB_normal_12 : decode cB_normal 12 = .ok (.invokevirtual 32, 3) := by decide +kernel
theorem dB_normal_15 : decode cB_normal 15 = .ok (.iconst 0, 1) := by decide +kernel
theorem dB_normal_16 : decode cB_normal 16 = .ok (.invokevirtual 85, 3) := by decide +kernel
theorem dB_normal_19 : decode cB_normal 19 = .ok (.istore 4, 2) := by decide +kernel
theorem dB_normal_21 : decode cB_normal 21 = .ok (.aload_n 3, 1) := by decide +kernel
theorem dB_normal_22 : decode cB_normal 22 = .ok (.aload_n 0, 1) := by decide +kernel
theorem dB_normal_23 : decode cB_normal 23 = .ok (.getfield 21, 3) := by decide +kernel
theorem dB_normal_26 : decode cB_normal 26 = .ok (.invokevirtual 89, 3) := by decide +kernel
theorem dB_normal_29 : decode cB_normal 29 = .ok (.invokevirtual 46, 3) := by decide +kernel
theorem dB_normal_32 : decode cB_normal 32 = .ok (.pop, 1) := by decide +kernel
theorem dB_normal_33 : decode cB_normal 33 = .ok (.iload 4, 2) := by decide +kernel
theorem dB_normal_35 : decode cB_normal 35 = .ok (.ireturn, 1) := by decide +kernel
theorem dB_same_0 : decode cB_same 0 = .ok (.aload_n 0, 1) := by decide +kernel
theorem dB_same_1 : decode cB_same 1 = .ok (.iload_n 1, 1) := by decide +kernel
theorem dB_same_2 : decode cB_same 2 = .ok (.invokevirtual 32, 3) := by decide +kernel
theorem dB_same_5 : decode cB_same 5 = .ok (.aload_n 0, 1) := by decide +kernel
theorem dB_same_6 : decode cB_same 6 = .ok (.iload_n 2, 1) := by decide +kernel
theorem dB_same_7 : decode cB_same 7 = .ok (.invokevirtual 32, 3) := by decide +kernel
theorem dB_same_10 : decode cB_same 10 = .ok (.invokevirtual 93, 3) := by decide +kernel
theorem dB_same_13 : decode cB_same 13 = .ok (.ireturn, 1) := by decide +kernel
theorem dB_about_0 : decode cB_about 0 = .ok (.aload_n 0, 1) := by decide +kernel
theorem dB_about_1 : decode cB_about 1 = .ok (.iload_n 1, 1) := by decide +kernel
theorem dB_about_2 : decode cB_about 2 = .ok (.invokevirtual 32, 3) := by decide +kernel
theorem dB_about_5 : decode cB_about 5 = .ok (.astore_n 3, 1) := by decide +kernel
theorem dB_about_6 : decode cB_about 6 = .ok (.iload_n 2, 1) := by decide +kernel
theorem dB_about_7 : decode cB_about 7 = .ok (.tableswitch 62 0 4 #[33, 38, 47, 52, 57], 33) := by decide +kernel
theorem dB_about_40 : decode cB_about 40 = .ok (.aload_n 3, 1) := by decide +kernel
theorem dB_about_41 : decode cB_about 41 = .ok (.getfield 97, 3) := by decide +kernel
theorem dB_about_44 : decode cB_about 44 = .ok (.ireturn, 1) := by decide +kernel
theorem dB_about_45 : decode cB_about 45 = .ok (.aload_n 0, 1) := by decide +kernel
theorem dB_about_46 : decode cB_about 46 = .ok (.getfield 21, 3) := by decide +kernel
theorem dB_about_49 : decode cB_about 49 = .ok (.aload_n 3, 1) := by decide +kernel
theorem dB_about_50 : decode cB_about 50 = .ok (.invokevirtual 101, 3) := by decide +kernel
theorem dB_about_53 : decode cB_about 53 = .ok (.ireturn, 1) := by decide +kernel
theorem dB_about_54 : decode cB_about 54 = .ok (.aload_n 3, 1) := by decide +kernel
theorem dB_about_55 : decode cB_about 55 = .ok (.invokevirtual 104, 3) := by decide +kernel
theorem dB_about_58 : decode cB_about 58 = .ok (.ireturn, 1) := by decide +kernel
theorem dB_about_59 : decode cB_about 59 = .ok (.aload_n 3, 1) := by decide +kernel
theorem dB_about_60 : decode cB_about 60 = .ok (.invokevirtual 107, 3) := by decide +kernel
theorem dB_about_63 : decode cB_about 63 = .ok (.ireturn, 1) := by decide +kernel
theorem dB_about_64 : decode cB_about 64 = .ok (.aload_n 3, 1) := by decide +kernel
theorem dB_about_65 : decode cB_about 65 = .ok (.invokevirtual 110, 3) := by decide +kernel
theorem dB_about_68 : decode cB_about 68 = .ok (.ireturn, 1) := by decide +kernel
theorem dB_about_69 : decode cB_about 69 = .ok (.new 62, 3) := by decide +kernel
theorem dB_about_72 : decode cB_about 72 = .ok (.dup, 1) := by decide +kernel
theorem dB_about_73 : decode cB_about 73 = .ok (.ldc 113, 2) := by decide +kernel
theorem dB_about_75 : decode cB_about 75 = .ok (.invokespecial 66, 3) := by decide +kernel
theorem dB_about_78 : decode cB_about 78 = .ok (.athrow, 1) := by decide +kernel
theorem dB_has_0 : decode cB_has 0 = .ok (.aload_n 0, 1) := by decide +kernel
theorem dB_has_1 : decode cB_has 1 = .ok (.iload_n 1, 1) := by decide +kernel
theorem dB_has_2 : decode cB_has 2 = .ok (.invokevirtual 32, 3) := by decide +kernel
theorem dB_has_5 : decode cB_has 5 = .ok (.astore_n 3, 1) := by decide +kernel
theorem dB_has_6 : decode cB_has 6 = .ok (.iload_n 2, 1) := by decide +kernel
theorem dB_has_7 : decode cB_has 7 = .ok (.invokestatic 36, 3) := by decide +kernel
theorem dB_has_10 : decode cB_has 10 = .ok (.aload_n 3, 1) := by decide +kernel
theorem dB_has_11 : decode cB_has 11 = .ok (.iload_n 2, 1) := by decide +kernel
theorem dB_has_12 : decode cB_has 12 = .ok (.invokevirtual 115, 3) := by decide +kernel
theorem dB_has_15 : decode cB_has 15 = .ok (.ireturn, 1) := by decide +kernel
theorem dB_write_0 : decode cB_write 0 = .ok (.aload_n 0, 1) := by decide +kernel
theorem dB_write_1 : decode cB_write 1 = .ok (.getfield 28, 3) := by decide +kernel
theorem dB_write_4 : decode cB_write 4 = .ok (.aload_n 0, 1) := by decide +kernel
theorem dB_write_5 : decode cB_write 5 = .ok (.iload_n 1, 1) := by decide +kernel
theorem dB_write_6 : decode cB_write 6 = .ok (.invokevirtual 32, 3) := by decide +kernel
theorem dB_write_9 : decode cB_write 9 = .ok (.invokevirtual 118, 3) := by decide +kernel
theorem dB_write_12 : decode cB_write 12 = .ok (.ireturn, 1) := by decide +kernel
theorem dB_out_0 : decode cB_out 0 = .ok (.iload_n 1, 1) := by decide +kernel
theorem dB_out_1 : decode cB_out 1 = .ok (.ifCond .lt 14, 3) := by decide +kernel
theorem dB_out_4 : decode cB_out 4 = .ok (.iload_n 1, 1) := by decide +kernel
theorem dB_out_5 : decode cB_out 5 = .ok (.aload_n 0, 1) := by decide +kernel
theorem dB_out_6 : decode cB_out 6 = .ok (.getfield 28, 3) := by decide +kernel
theorem dB_out_9 : decode cB_out 9 = .ok (.getfield 121, 3) := by decide +kernel
theorem dB_out_12 : decode cB_out 12 = .ok (.if_icmp .lt 13, 3) := by decide +kernel
theorem dB_out_15 : decode cB_out 15 = .ok (.new 124, 3) := by decide +kernel
theorem dB_out_18 : decode cB_out 18 = .ok (.dup, 1) := by decide +kernel
theorem dB_out_19 : decode cB_out 19 = .ok (.ldc 126, 2) := by decide +kernel
theorem dB_out_21 : decode cB_out 21 = .ok (.invokespecial 128, 3) := by decide +kernel
theorem dB_out_24 : decode cB_out 24 = .ok (.athrow, 1) := by decide +kernel
theorem dB_out_25 : decode cB_out 25 = .ok (.aload_n 0, 1) := by decide +kernel
theorem dB_out_26 : decode cB_out 26 = .ok (.getfield 28, 3) := by decide +kernel
theorem dB_out_29 : decode cB_out 29 = .ok (.getfield 129, 3) := by decide +kernel
theorem dB_out_32 : decode cB_out 32 = .ok (.iload_n 1, 1) := by decide +kernel
theorem dB_out_33 : decode cB_out 33 = .ok (.baload, 1) := by decide +kernel
theorem dB_out_34 : decode cB_out 34 = .ok (.ireturn, 1) := by decide +kernel
theorem dB_register_0 : decode cB_register 0 = .ok (.iload_n 1, 1) := by decide +kernel
theorem dB_register_1 : decode cB_register 1 = .ok (.ifCond .lt 9, 3) := by decide +kernel
theorem dB_register_4 : decode cB_register 4 = .ok (.iload_n 1, 1) := by decide +kernel
theorem dB_register_5 : decode cB_register 5 = .ok (.bipush 16, 2) := by decide +kernel
theorem dB_register_7 : decode cB_register 7 = .ok (.if_icmp .lt 13, 3) := by decide +kernel
theorem dB_register_10 : decode cB_register 10 = .ok (.new 133, 3) := by decide +kernel
theorem dB_register_13 : decode cB_register 13 = .ok (.dup, 1) := by decide +kernel
theorem dB_register_14 : decode cB_register 14 = .ok (.ldc 135, 2) := by decide +kernel
theorem dB_register_16 : decode cB_register 16 = .ok (.invokespecial 137, 3) := by decide +kernel
theorem dB_register_19 : decode cB_register 19 = .ok (.athrow, 1) := by decide +kernel
theorem dB_register_20 : decode cB_register 20 = .ok (.aload_n 0, 1) := by decide +kernel
theorem dB_register_21 : decode cB_register 21 = .ok (.getfield 11, 3) := by decide +kernel
theorem dB_register_24 : decode cB_register 24 = .ok (.iload_n 1, 1) := by decide +kernel
theorem dB_register_25 : decode cB_register 25 = .ok (.aaload, 1) := by decide +kernel
theorem dB_register_26 : decode cB_register 26 = .ok (.areturn, 1) := by decide +kernel
theorem dB_checkFree_0 : decode cB_checkFree 0 = .ok (.iload_n 0, 1) := by decide +kernel
theorem dB_checkFree_1 : decode cB_checkFree 1 = .ok (.ifCond .lt 9, 3) := by decide +kernel
theorem dB_checkFree_4 : decode cB_checkFree 4 = .ok (.iload_n 0, 1) := by decide +kernel
theorem dB_checkFree_5 : decode cB_checkFree 5 = .ok (.bipush 99, 2) := by decide +kernel
theorem dB_checkFree_7 : decode cB_checkFree 7 = .ok (.if_icmp .le 13, 3) := by decide +kernel
theorem dB_checkFree_10 : decode cB_checkFree 10 = .ok (.new 133, 3) := by decide +kernel
theorem dB_checkFree_13 : decode cB_checkFree 13 = .ok (.dup, 1) := by decide +kernel
theorem dB_checkFree_14 : decode cB_checkFree 14 = .ok (.ldc 138, 2) := by decide +kernel
theorem dB_checkFree_16 : decode cB_checkFree 16 = .ok (.invokespecial 137, 3) := by decide +kernel
theorem dB_checkFree_19 : decode cB_checkFree 19 = .ok (.athrow, 1) := by decide +kernel
theorem dB_checkFree_20 : decode cB_checkFree 20 = .ok (.return_, 1) := by decide +kernel
end
section
/-! the constructor of BindingBench: what it asks of arrays of Terms; its contract -/
def cn_X (U : State) : Prop := va_AO nm_T U ∧ (Cond.arrayOver (.array .int)).before #[] U = true
theorem cn_X.moved {u U : State} (hvm : u.vm.Alike U.vm) (h : cn_X u) : cn_X U := ⟨va_AO.moved hvm h.1, Jvm.Stand.arrayOver_alikeB hvm h.2⟩
def cn_P (n0 : Nat) (D : va_G) (K : Nat → ClassId) (w : mp_W) (sz : Nat) (av : List Value) : Array Value → State → Prop := fun a U => ct_P n0 D K w sz av a U ∧ cn_X U
theorem cn_blind {n0 : Nat} {D : va_G} {K : Nat → ClassId} {w : mp_W} {sz : Nat} {av : List Value} : FrameBlind (cn_P n0 D K w sz av) := by
  intro a U g mk h
  exact ⟨ct_blind a U g mk h.1, cn_X.moved (u := U) (U := U.calling g mk a) (Vm.Alike.refl U.vm) h.2⟩
def cn_M (l : Launch) (n0 : Nat) (D : va_G) (K : Nat → ClassId) (y : MethodName) (cw : Cond) (fr lo mc ms : Nat) (av : List Value) (w : mp_W) (post : Option Value → mp_W → Prop) : Prop :=
  ∀ sz, Met l y (cw :: gw_l) { frames := fr, cells := mc, slots := ms, locals := lo } (cn_P n0 D K w sz av) (ct_Q D w sz post) mc ms (mp_A w sz)
section CNB
variable {l : Launch} {n0 : Nat} {D : va_G} {K : Nat → ClassId}
theorem cn_go {y : MethodName} {cc : ByteArray} {maxL fr lo mc ms : Nat} {ret : Option FieldType} {own : String} {av : List Value} {w : mp_W} {post : Option Value → mp_W → Prop} (hy : plainName y.cls = true) (ho : y.cls = own) (hav : (lg_sl av).length ≤ maxL)
    (body : ∀ (p : Program) (e : Env) (s : State) (m : MethodId) (below : List Frame) (meth : Method) (c : Code) (ls : Array Slot), cn_X s → ct_E p m c cc maxL s av.toArray (Cond.code y cc maxL ret) own D K n0 w (mp_A w s.heap.size) → mp_I D cl_all (mp_A w s.heap.size) s.heap w s.heap [] → meth.sig.returnType = ret → meth.locks = false → meth.name = y.name → lv_has ls maxL (lv_args 0 av) →
      W p l e { frames := fr, cells := mc, slots := ms, locals := lo } s m av.toArray below meth c s.heap [] 0 0 (MQ below (ct_Q D w s.heap.size post) av.toArray s mc ms (mp_A w s.heap.size)) (F0 m 0 ls [])) :
    cn_M l n0 D K y (Cond.code y cc maxL ret) fr lo mc ms av w post := by
  intro sz
  refine Met.ofW (cc := cc) (maxL := maxL) (ret := ret) hy rfl ?_
  intro p e s m args below meth c s₁ B hml hv
  obtain ⟨⟨rfl, hsz, hS⟩, hX⟩ := hv
  subst hsz
  have hl := lv_entry av (n := maxL) hav
  rw [lg_entry_eq]
  generalize (lg_sl av ++ List.replicate (maxL - (lg_sl av).length) Slot.unset).toArray = ls at hl ⊢
  have hown : s.vm.findClass own = some m.cls := by rw [← ho]; exact findClass_of_methodNamed B.named
  exact body p e s m below meth c ls hX ⟨⟨⟨B.exec, B.bytes, hml, hown, atoms_spec (ws := Cond.code y cc maxL ret :: gw_l) B.pre⟩, hS.2.1⟩, hS, hS.A⟩ hS.1.I B.returns B.notSynchronized (name_of_methodNamed B.named B.method).1 hl
end CNB
section CNR
variable {p : Program} {l : Launch} {e : Env} {R : Room} {s : State} {m : MethodId} {args : Array Value} {below : List Frame} {meth : Method} {c : Code} {H : Heap} {locs : List Loc} {cells slots mc ms : Nat} {Q : State → Prop}
variable {n0 : Nat} {D : va_G} {K : Nat → ClassId} {A : Nat → Prop} {w w0 : mp_W} {cc : ByteArray} {nL pc : Nat} {c0 : Cond} {own : String} {ls : Array Slot} {rest : List Value}
variable {y : MethodName} {bytes : ByteArray} {maxL index n fr lo : Nat} {b : Nat} {As st : List Value} {post' : Option Value → mp_W → Prop}
theorem cn_In (hX : cn_X s) (hE : ct_E p m c cc nL s args c0 own D K n0 w0 A) (hI : mp_I D cl_all A s.heap w H locs) (hM : cn_M l n0 D K y (Cond.code y bytes maxL none) fr lo mc ms (.ref b :: As) w post') (hy1 : y.name = "<init>")
    (h1 : Cond.methodLink own index y ∈ gw_l) (h2 : Cond.instanceMethod y ∈ gw_l) (h4 : Cond.initialized y.cls ∈ gw_l) (h5 : Cond.code y bytes maxL none ∈ gw_l)
    (hd : y.cls ≠ "java/lang/invoke/MethodHandle" ∧ y.cls ≠ "java/lang/invoke/VarHandle" ∧ (parseMethodDescriptor y.desc).map (fun d => d.parameters.length) = some n) (hR : fr + 1 ≤ R.frames ∧ 8 + (maxL + 11) + lo ≤ R.locals)
    (hn : As.length = n) (hls : ls.size = nL) (hst : st = As.reverse ++ .ref b :: rest) (hW : (rest.map fun v => v.category).sum ≤ 8) (hdg : decode cc pc = .ok (.invokespecial index, 3)) (hf : cells + mc ≤ R.cells ∧ slots + ms ≤ R.slots)
    (kk : ∀ (v : Option Value) (w' : mp_W) (H1 : Heap) (locs1 : List Loc), post' v w' → mp_I D cl_all A s.heap w' H1 locs1 → W p l e R s m args below meth c H1 locs1 (cells + mc) (slots + ms) Q (F0 m (pc + 3) ls (v.toList ++ rest))) :
    W p l e R s m args below meth c H locs cells slots Q (F0 m pc ls st) := by
  have run := va_runI (g := F0 m pc ls st) (rest := rest) (b := b) (As := As) (locs := locs) (cells := cells) (slots := slots) (below := below) (meth := meth) (e := e) hE.1.1 (hM H.size) ⟨ct_cb hE h1 h4 h5 hd hR, hy1, ct_w hE h2⟩ ⟨cn_blind, fun U hU hW => ⟨⟨rfl, by rw [hU], ct_at hE hI hU hW⟩, cn_X.moved hW.alike hX⟩⟩ rfl hn hls hst (lv_room hW) hdg hf
  intro T hT X
  obtain ⟨v, st0, t, T', L, h0, X', hL, e1, e2, ⟨v', w', ho, hp, hP, hdm, hF⟩, hg⟩ := run T hT X
  cases ho
  obtain ⟨tt, a1, b1⟩ := kk v w' t.heap (locs ++ L) hp (ct_on hI h0 hP hdm hF hL) T' e1 X'
  exact ⟨tt, hg _ a1, b1⟩
end CNR
section MPQ
variable {p : Program} {l : Launch} {e : Env} {R : Room} {s : State} {m : MethodId} {args : Array Value} {below : List Frame} {meth : Method} {c : Code} {H : Heap} {locs : List Loc} {cells slots : Nat} {Q : State → Prop}
variable {D : va_G} {cl : List vw_C} {tys : List (ClassId × FieldType)} {A : Nat → Prop} {H0 : Heap} {w : mp_W} {cc : ByteArray} {nL pc : Nat} {Ts : List Cond} {own : String} {ls : Array Slot} {rest : List Value} {a : Nat}
theorem mp_newq (hX : mp_X p m c cc nL s args Ts own D cl tys) (hI : mp_I D cl A H0 w H locs) {C : String} {index : Nat} (hclink : Cond.classLink own index C ∈ Ts) (hover : va_AO C s) {cA : ClassId} (t0 : Nat) (ht : tys[t0]? = some (cA, .object C))
    {n : Int32} {N' : Nat} (hn : ¬ n < 0) (hN : n.toNatClampNeg = N') (hbytes : N' * 4 ≤ 536870912) (hcells : cells + 1 ≤ R.cells) (hslots : slots + N' ≤ R.slots) (hdg : decode cc pc = .ok (.anewarray index, 3))
    (kk : ∀ (q : Nat) (H1 : Heap), w q = none → mp_I D cl A H0 (mp_up w q (.inl (cA, N', .inr (.inr (.inr (.inr (fun _ => none))))))) H1 locs → W p l e R s m args below meth c H1 locs (cells + 1) (slots + N') Q (F0 m (pc + 3) ls (.ref q :: rest))) : W p l e R s m args below meth c H locs cells slots Q (F0 m pc ls (.int n :: rest)) := by
  obtain ⟨⟨hx, hb, -, hown, hts⟩, hK⟩ := hX
  obtain ⟨⟨ws, hP, hD, hcv⟩, hS, hA⟩ := hI
  refine va_newq hx hb hown (hts _ hclink) hover hK hP hD hS hA hn hN hbytes hcells hslots hdg (fun q c1 H1 hK1 hP1 hD1 hS1 => ?_)
  have h2 : c1 = cA := mp_RAu (hK1.2 tys.length (c1, .object C) (by simp)).2 (hK.2 t0 _ ht).2
  subst h2
  have h3 := hcv.push hD1
  exact kk q H1 h3.2 ⟨⟨_, hP1, hD1, h3.1⟩, hS1, hA⟩
end MPQ
abbrev ob_R (K : Nat → ClassId) (g : Nat → Option Nat) : va_E := .inl (K 3, 16, .inr (.inr (.inr (.inr g))))
/-- a new bench: its registers' array ra, the Terms and rows of L, its Workshop ws, its Text tx -/
def mk_r (K : Nat → ClassId) (w' : mp_W) (g : Nat → Option Nat) (L : List Nat) (i : Nat) : Prop := L.length = 2 * i ∧ ∀ j, j < i → ∃ t a, L[2 * j]? = some t ∧ L[2 * j + 1]? = some a ∧ g j = some t ∧ w' t = some (ob_T a 1) ∧ w' a = some (ob_I K 8 (fun _ => 0))
theorem mk_r.kp {K : Nat → ClassId} {w w' : mp_W} {g : Nat → Option Nat} {L : List Nat} {i : Nat} {S : List Nat} (h : mk_r K w g L i) (ho : ke S w w') (hS : ∀ q ∈ L, q ∉ S) : mk_r K w' g L i := by
  refine ⟨h.1, fun j hj => ?_⟩
  obtain ⟨t, a, h1, h2, h3, h4, h5⟩ := h.2 j hj
  exact ⟨t, a, h1, h2, h3, ho t _ h4 (hS t (List.mem_of_getElem? h1)), ho a _ h5 (hS a (List.mem_of_getElem? h2))⟩
def mk_B (K : Nat → ClassId) (w w' : mp_W) (x : Nat) : Prop := ∃ ra L ws t1 a1 t2 a2 k1 b1 k2 b2 k3 b3 tx by0 k4 b4 g, fz [x] (([ra] ++ L) ++ ([ws] ++ [t1, a1, t2, a2, k1, b1, k2, b2, k3, b3]) ++ ([tx] ++ [by0, k4, b4])) w w' ∧ w' x = some (.inr (4, [.ref ra, .ref ws, .ref tx])) ∧ w' ra = some (ob_R K g) ∧ mk_r K w' g L 16 ∧
  w' ws = some (.inr (3, [.ref t1, .ref t2, .ref k1, .ref k2, .ref k3])) ∧ w' t1 = some (ob_T a1 1) ∧ w' a1 = some (ob_I K 2000 (fun _ => 0)) ∧ w' t2 = some (ob_T a2 1) ∧ w' a2 = some (ob_I K 2000 (fun _ => 0)) ∧ pt_W K w' k1 b1 1 1 ([], 0) ∧ pt_W K w' k2 b2 0 1 ([], 0) ∧ pt_W K w' k3 b3 0 1 ([], 0) ∧
  w' tx = some (.inr (1, [.ref by0, .int 0, .ref k4])) ∧ w' by0 = some (ob_Y K 64 (fun _ => 0)) ∧ pt_W K w' k4 b4 1 0 ([], 0)
section KC3
variable {l : Launch} {n0 : Nat} {D : va_G} {K : Nat → ClassId} {w : mp_W}
set_option maxRecDepth 100000 in
set_option maxHeartbeats 2000000 in
theorem kB_init {x : Nat} (hB : w x = some (.inr (4, [.null, .null, .null]))) : cn_M l n0 D K yB_init (Cond.code yB_init cB_init 2 none) 3 120 48 4872 [.ref x] w (fun v w' => v = none ∧ mk_B K w w' x) := by
  refine cn_go (own := nm_B) (by decide) rfl (Nat.le_of_ble_eq_true rfl) ?_
  intro p e s m below meth c ls hX hE hI hr hk hn hl
  have hx := hE.1.1.1
  have hb := hE.1.1.2.1
  have hl : lv_has ls 2 [(0, .ref x)] := hl
  refine lv_aload_n hx hb dB_init_0 rfl (lv_at hl 0 rfl) ?_
  refine W.objInit hx hb hE.1.1.2.2.2.1 (ct_w hE gm_B1) (ct_w hE gi_O_init) (ct_w hE gc_O_init) rfl (by rw [hE.1.1.2.2.1]; exact hl.1) rfl dB_init_1 (Nat.le_of_ble_eq_true rfl) (Nat.le_of_ble_eq_true rfl) ?_
  show W _ _ _ _ _ _ _ _ _ _ _ _ _ _ _ (F0 _ _ _ [])
  refine lv_aload_n hx hb dB_init_4 rfl (lv_at hl 0 rfl) ?_
  refine lv_bipush (v := nI 16) hx hb dB_init_5 (by decide) ?_
  refine mp_newq (C := nm_T) hE.1 hI (List.mem_cons_of_mem _ gk_B9) hX.1 3 rfl (N' := 16) (nI_pos (by omega)) (nI_clamp (by omega)) (Nat.le_of_ble_eq_true rfl) (Nat.le_of_ble_eq_true rfl) (Nat.le_of_ble_eq_true rfl) dB_init_7 (fun ra H hq0 hI => ?_)
  obtain ⟨x1, hx1⟩ : ∃ z, mp_up w ra (ob_R K (fun _ => none)) = z := ⟨_, rfl⟩
  have hI : mp_I D cl_all (mp_A w s.heap.size) s.heap x1 H [] := by rw [← hx1]; exact hI
  have z1 : fz [x] [ra] w x1 := by rw [← hx1]; exact fz.one (mp_some hB) hq0
  have r1 : x1 ra = some (ob_R K (fun _ => none)) := by rw [← hx1]; exact mp_up_self ..
  have e1 : x1 x = some (.inr (4, [.null, .null, .null])) := by rw [← hx1, mp_up_ne _ _ (fun z => by rw [← z, hB] at hq0; cases hq0)]; exact hB
  have nra : ra ∉ [x] := by simp; intro z; rw [z, e1] at r1; cases r1
  refine mp_putF hE.1 hI e1 rfl gx_B ty_B to_B tn_B 0 (by decide) (List.mem_cons_of_mem _ gf_B11) rfl hn rfl rfl rfl (Nat.le_of_ble_eq_true rfl) dB_init_10 (fun H locs hI => ?_)
  obtain ⟨x2, hx2⟩ : ∃ z, mp_up x1 x (.inr (4, [.ref ra, .null, .null])) = z := ⟨_, rfl⟩
  have hI : mp_I D cl_all (mp_A w s.heap.size) s.heap x2 H locs := by rw [← hx2]; exact hI
  have z2 : fz [x] [] x1 x2 := by rw [← hx2]; exact fz.upd (mp_some e1) (by simp)
  have e2 : x2 x = some (.inr (4, [.ref ra, .null, .null])) := by rw [← hx2]; exact mp_up_self ..
  have r2 := z2.kp _ _ r1 nra
  have z02 := z1.tr z2 (fun q hq => Or.inl hq)
  refine lv_iconst (v := nI 0) hx hb dB_init_13 (by decide) ?_
  refine lv_istore_n hx hb dB_init_14 rfl hl (by decide) rfl (fun ls hl => ?_)
  have rest : ∀ (L : List Nat) (g : Nat → Option Nat) (w2 : mp_W) (ls : Array Slot) (H : Heap) (locs : List Loc), fz [x] ([ra] ++ L) w w2 → w2 x = some (.inr (4, [.ref ra, .null, .null])) → w2 ra = some (ob_R K g) → mk_r K w2 g L 16 → mp_I D cl_all (mp_A w s.heap.size) s.heap w2 H locs → lv_has ls 2 [(1, .int (nI 16)), (0, .ref x)] →
      W p l e { frames := 3, cells := 48, slots := 4872, locals := 120 } s m ([Value.ref x] : List Value).toArray below meth c H locs 33 176 (MQ below (ct_Q D w s.heap.size (fun v w' => v = none ∧ mk_B K w w' x)) ([Value.ref x] : List Value).toArray s 48 4872 (mp_A w s.heap.size)) (F0 m 42 ls []) := by
    intro L g w2 ls H locs z0 e0 r0 m0 hI hl
    have nL : ∀ q ∈ L, q ∉ [x] := fun q hq => by
      have h1 := (z0.2.1 q (List.mem_append_right _ hq)).1
      simp
      intro z
      rw [z, hB] at h1
      cases h1
    refine lv_aload_n hx hb dB_init_42 rfl (lv_at hl 1 rfl) ?_
    refine mp_new (ci := 3) (fs := [.null, .null, .null, .null, .null]) hE.1 hI rfl gx_S ty_S to_S (List.mem_cons_of_mem _ gk_B18) (List.mem_cons_of_mem _ gn_S) (List.mem_cons_of_mem _ gz_S) nd_S (Nat.le_of_ble_eq_true rfl) (Nat.le_of_ble_eq_true rfl) dB_init_43 (fun ws H hq0 hI => ?_)
    obtain ⟨y1, hy1⟩ : ∃ z, mp_up w2 ws (.inr (3, [.null, .null, .null, .null, .null])) = z := ⟨_, rfl⟩
    have hI : mp_I D cl_all (mp_A w s.heap.size) s.heap y1 H locs := by rw [← hy1]; exact hI
    have zn : fz [x] [ws] w2 y1 := by rw [← hy1]; exact fz.one (mp_some e0) hq0
    have ht : y1 ws = some (.inr (3, [.null, .null, .null, .null, .null])) := by rw [← hy1]; exact mp_up_self ..
    have hnn : x ≠ ws := fun z => by rw [← z, e0] at hq0; cases hq0
    have e1 : y1 x = some (.inr (4, [.ref ra, .null, .null])) := by rw [← hy1, mp_up_ne _ _ hnn]; exact e0
    have r1 := zn.kp _ _ r0 nra
    have m1 := m0.kp zn.kp nL
    refine lv_dup hx hb dB_init_46 rfl ?_
    refine ct_In (n := 0) hE hI (kS_init ht) rfl gm_B20 gi_S_init gz_S gc_S_init (by decide +kernel) ⟨Nat.le_of_ble_eq_true rfl, Nat.le_of_ble_eq_true rfl⟩ rfl hl.1 rfl (Nat.le_of_ble_eq_true rfl) dB_init_47 ⟨Nat.le_of_ble_eq_true rfl, Nat.le_of_ble_eq_true rfl⟩ (fun v y2 H locs hq hI => ?_)
    obtain ⟨rfl, t1, a1, t2, a2, k1, b1, k2, b2, k3, b3, zc, s0, s1, s2, s3, s4, s5, s6, s7⟩ := hq
    show W _ _ _ _ _ _ _ _ _ _ _ _ _ _ _ (F0 _ _ _ [.ref _, .ref _])
    have e2 := zc.kp _ _ e1 (by simp; exact hnn)
    have r2 := zc.kp _ _ r1 (by simp; intro z; rw [z, ht] at r1; cases r1)
    have m2 := m1.kp zc.kp (fun q hq => by
      simp
      intro z
      have h1 := (z0.2.1 q (List.mem_append_right _ hq)).2
      rw [z, hq0] at h1
      exact h1 rfl)
    refine mp_putF hE.1 hI e2 rfl gx_B ty_B to_B tn_B 1 (by decide) (List.mem_cons_of_mem _ gf_B21) rfl hn rfl rfl rfl (Nat.le_of_ble_eq_true rfl) dB_init_50 (fun H locs hI => ?_)
    obtain ⟨y3, hy3⟩ : ∃ z, mp_up y2 x (.inr (4, [.ref ra, .ref ws, .null])) = z := ⟨_, rfl⟩
    have hI : mp_I D cl_all (mp_A w s.heap.size) s.heap y3 H locs := by rw [← hy3]; exact hI
    have zp : fz [x] [] y2 y3 := by rw [← hy3]; exact fz.upd (mp_some e2) (by simp)
    have e3 : y3 x = some (.inr (4, [.ref ra, .ref ws, .null])) := by rw [← hy3]; exact mp_up_self ..
    have nc : ∀ q ∈ [t1, a1, t2, a2, k1, b1, k2, b2, k3, b3], q ∉ [x] := fun q hq => by
      have h1 := (zc.2.1 q hq).1
      simp
      intro z
      rw [z, e1] at h1
      cases h1
    have nw : ws ∉ [x] := by simp; exact Ne.symm hnn
    have r3 := zp.kp _ _ r2 nra
    have m3 := m2.kp zp.kp nL
    have s0 := zp.kp _ _ s0 nw
    have s1 := zp.kp _ _ s1 (nc _ (by simp))
    have s2 := zp.kp _ _ s2 (nc _ (by simp))
    have s3 := zp.kp _ _ s3 (nc _ (by simp))
    have s4 := zp.kp _ _ s4 (nc _ (by simp))
    have s5 := s5.kp zp.kp (nc _ (by simp)) (nc _ (by simp))
    have s6 := s6.kp zp.kp (nc _ (by simp)) (nc _ (by simp))
    have s7 := s7.kp zp.kp (nc _ (by simp)) (nc _ (by simp))
    have za := z0.tr ((zn.tr zc (fun q hq => Or.inr hq)).tr zp (fun q hq => Or.inl hq)) (fun q hq => Or.inl hq)
    clear hq0
    refine lv_aload_n hx hb dB_init_53 rfl (lv_at hl 1 rfl) ?_
    refine mp_new (ci := 1) (fs := [.null, .int 0, .null]) hE.1 hI rfl gx_X ty_X to_X (List.mem_cons_of_mem _ gk_B25) (List.mem_cons_of_mem _ gn_X) (List.mem_cons_of_mem _ gz_X) nd_X (Nat.le_of_ble_eq_true rfl) (Nat.le_of_ble_eq_true rfl) dB_init_54 (fun tx H hq0 hI => ?_)
    obtain ⟨y4, hy4⟩ : ∃ z, mp_up y3 tx (.inr (1, [.null, .int 0, .null])) = z := ⟨_, rfl⟩
    have hI : mp_I D cl_all (mp_A w s.heap.size) s.heap y4 H locs := by rw [← hy4]; exact hI
    have zm : fz [x] [tx] y3 y4 := by rw [← hy4]; exact fz.one (mp_some e3) hq0
    have ht4 : y4 tx = some (.inr (1, [.null, .int 0, .null])) := by rw [← hy4]; exact mp_up_self ..
    have ntx : ∀ q z, y3 q = some z → q ∉ [tx] := fun q z h => by
      simp
      intro e
      rw [e, hq0] at h
      cases h
    have e4 : y4 x = some (.inr (4, [.ref ra, .ref ws, .null])) := by rw [← hy4, mp_up_ne _ _ (fun z => by rw [← z, e3] at hq0; cases hq0)]; exact e3
    refine lv_dup hx hb dB_init_57 rfl ?_
    refine ct_In (n := 0) hE hI (kX_init ht4) rfl gm_B27 gi_X_init gz_X gc_X_init (by decide +kernel) ⟨Nat.le_of_ble_eq_true rfl, Nat.le_of_ble_eq_true rfl⟩ rfl hl.1 rfl (Nat.le_of_ble_eq_true rfl) dB_init_58 ⟨Nat.le_of_ble_eq_true rfl, Nat.le_of_ble_eq_true rfl⟩ (fun v y5 H locs hq hI => ?_)
    obtain ⟨rfl, by0, k4, b4, zx, q0, q1, q2⟩ := hq
    show W _ _ _ _ _ _ _ _ _ _ _ _ _ _ _ (F0 _ _ _ [.ref _, .ref _])
    have e5 := zx.kp _ _ e4 (ntx _ _ e3)
    refine mp_putF hE.1 hI e5 rfl gx_B ty_B to_B tn_B 2 (by decide) (List.mem_cons_of_mem _ gf_B28) rfl hn rfl rfl rfl (Nat.le_of_ble_eq_true rfl) dB_init_61 (fun H locs hI => ?_)
    have zq : fz [x] [] y5 (mp_up y5 x (.inr (4, [.ref ra, .ref ws, .ref tx]))) := fz.upd (mp_some e5) (by simp)
    have nx : ∀ q ∈ [by0, k4, b4], q ∉ [x] := fun q hq => by
      have h1 := (zx.2.1 q hq).1
      simp
      intro z
      rw [z, e4] at h1
      cases h1
    have kk : ∀ q z, y3 q = some z → q ∉ [x] → mp_up y5 x (.inr (4, [.ref ra, .ref ws, .ref tx])) q = some z := fun q z h hq => zq.kp _ _ (zx.kp _ _ (zm.kp _ _ h hq) (ntx _ _ h)) hq
    have kW : ∀ k b fa ff, pt_W K y3 k b fa ff ([], 0) → k ∉ [x] → b ∉ [x] → pt_W K (mp_up y5 x (.inr (4, [.ref ra, .ref ws, .ref tx]))) k b fa ff ([], 0) := fun k b fa ff h h1 h2 => by
      obtain ⟨f, a1, a2, a3⟩ := h
      exact ⟨f, kk _ _ a1 h1, kk _ _ a2 h2, a3⟩
    have zz := za.tr ((zm.tr zx (fun q hq => Or.inr hq)).tr zq (fun q hq => Or.inl hq)) (fun q hq => Or.inl hq)
    have nt : tx ∉ [x] := by simp; intro z; rw [z, e3] at hq0; cases hq0
    refine ct_vret hE hI hr hk ⟨rfl, ra, L, ws, t1, a1, t2, a2, k1, b1, k2, b2, k3, b3, tx, by0, k4, b4, g, ?_, mp_up_self .., kk _ _ r3 nra, ⟨m3.1, fun j hj => ?_⟩, kk _ _ s0 nw, kk _ _ s1 (nc _ (by simp)), kk _ _ s2 (nc _ (by simp)), kk _ _ s3 (nc _ (by simp)), kk _ _ s4 (nc _ (by simp)), kW _ _ _ _ s5 (nc _ (by simp)) (nc _ (by simp)), kW _ _ _ _ s6 (nc _ (by simp)) (nc _ (by simp)), kW _ _ _ _ s7 (nc _ (by simp)) (nc _ (by simp)), zq.kp _ _ q0 nt, zq.kp _ _ q1 (nx _ (by simp)), q2.kp zq.kp (nx _ (by simp)) (nx _ (by simp))⟩ (by decide) (by decide) dB_init_64
    · have : ([ws] ++ [t1, a1, t2, a2, k1, b1, k2, b2, k3, b3] ++ []) = ([ws] ++ [t1, a1, t2, a2, k1, b1, k2, b2, k3, b3]) := by simp
      rw [this] at zz
      have : ([tx] ++ [by0, k4, b4] ++ []) = ([tx] ++ [by0, k4, b4]) := by simp
      rw [this] at zz
      exact zz
    · obtain ⟨t, a, h1, h2, h3, h4, h5⟩ := m3.2 j hj
      exact ⟨t, a, h1, h2, h3, kk _ _ h4 (nL t (List.mem_of_getElem? h1)), kk _ _ h5 (nL a (List.mem_of_getElem? h2))⟩
  have loop : ∀ (k i : Nat) (L : List Nat) (g : Nat → Option Nat) (w2 : mp_W) (ls : Array Slot) (H : Heap) (locs : List Loc), i + k = 16 → fz [x] ([ra] ++ L) w w2 → w2 x = some (.inr (4, [.ref ra, .null, .null])) → w2 ra = some (ob_R K g) → mk_r K w2 g L i → mp_I D cl_all (mp_A w s.heap.size) s.heap w2 H locs → lv_has ls 2 [(1, .int (nI i)), (0, .ref x)] →
      W p l e { frames := 3, cells := 48, slots := 4872, locals := 120 } s m ([Value.ref x] : List Value).toArray below meth c H locs (1 + 2 * i) (16 + 10 * i) (MQ below (ct_Q D w s.heap.size (fun v w' => v = none ∧ mk_B K w w' x)) ([Value.ref x] : List Value).toArray s 48 4872 (mp_A w s.heap.size)) (F0 m 15 ls []) := by
    intro k
    induction k with
    | zero =>
      intro i L g w2 ls H locs hik z0 e0 r0 m0 hI hl
      have : i = 16 := by omega
      subst this
      refine lv_iload_n hx hb dB_init_15 rfl (lv_at hl 0 rfl) ?_
      refine lv_bipush (v := nI 16) hx hb dB_init_16 (by decide) ?_
      refine lv_icmp_ge (tgt := 42) hx hb dB_init_18 (by decide) (fun hq => ?_) (fun hq => ?_)
      · exact rest L g w2 ls H locs z0 e0 r0 m0 hI hl
      · exact absurd (nI_le (a := 16) (b := 16) (by omega) (by omega)) hq
    | succ k ih =>
      intro i L g w2 ls H locs hik z0 e0 r0 m0 hI hl
      have nL : ∀ q ∈ L, q ∉ [x] := fun q hq => by
        have h1 := (z0.2.1 q (List.mem_append_right _ hq)).1
        simp
        intro z
        rw [z, hB] at h1
        cases h1
      refine lv_iload_n hx hb dB_init_15 rfl (lv_at hl 0 rfl) ?_
      refine lv_bipush (v := nI 16) hx hb dB_init_16 (by decide) ?_
      refine lv_icmp_ge (tgt := 42) hx hb dB_init_18 (by decide) (fun hq => ?_) (fun hq => ?_)
      · exact absurd ((nI_leI (by omega) (by omega)).mp hq) (by omega)
      · skip
        refine lv_aload_n hx hb dB_init_21 rfl (lv_at hl 1 rfl) ?_
        refine mp_get hE.1 hI e0 rfl gx_B 0 (by decide) (List.mem_cons_of_mem _ gf_B11) rfl dB_init_22 ?_
        refine lv_iload_n hx hb dB_init_25 rfl (lv_at hl 0 rfl) ?_
        refine mp_new (ci := 0) (fs := [.null, .int 0]) hE.1 hI rfl gx_T ty_T to_T (List.mem_cons_of_mem _ gk_B9) (List.mem_cons_of_mem _ gn_T) (List.mem_cons_of_mem _ gz_T) nd_T (by show 1 + 2 * i + 1 ≤ 48; omega) (by show 16 + 10 * i + 2 ≤ 4872; omega) dB_init_26 (fun t H hq0 hI => ?_)
        obtain ⟨y1, hy1⟩ : ∃ z, mp_up w2 t (.inr (0, [.null, .int 0])) = z := ⟨_, rfl⟩
        have hI : mp_I D cl_all (mp_A w s.heap.size) s.heap y1 H locs := by rw [← hy1]; exact hI
        have zn : fz [x] [t] w2 y1 := by rw [← hy1]; exact fz.one (mp_some e0) hq0
        have ht : y1 t = some (.inr (0, [.null, .int 0])) := by rw [← hy1]; exact mp_up_self ..
        have nt : ∀ q z, w2 q = some z → q ∉ [t] := fun q z h => by
          simp
          intro e
          rw [e, hq0] at h
          cases h
        have e1 : y1 x = some (.inr (4, [.ref ra, .null, .null])) := by rw [← hy1, mp_up_ne _ _ (fun z => by rw [← z, e0] at hq0; cases hq0)]; exact e0
        have r1 := zn.kp _ _ r0 nra
        have m1 := m0.kp zn.kp nL
        refine lv_dup hx hb dB_init_29 rfl ?_
        refine lv_bipush (v := nI 8) hx hb dB_init_30 (by decide) ?_
        refine ct_In (n := 1) hE hI (kT_init (n := 8) ht (by decide)) rfl gm_B15 gi_T_init gz_T gc_T_init (by decide +kernel) ⟨Nat.le_of_ble_eq_true rfl, Nat.le_of_ble_eq_true rfl⟩ rfl hl.1 rfl (Nat.le_of_ble_eq_true rfl) dB_init_32 ⟨by show 1 + 2 * i + 1 + 1 ≤ 48; omega, by show 16 + 10 * i + 2 + 8 ≤ 4872; omega⟩ (fun v y2 H locs hq hI => ?_)
        obtain ⟨rfl, a, zc, hc1, hc2⟩ := hq
        show W _ _ _ _ _ _ _ _ _ _ _ _ _ _ _ (F0 _ _ _ [.ref _, .int _, .ref _])
        have e2 := zc.kp _ _ e1 (nt _ _ e0)
        have r2 := zc.kp _ _ r1 (nt _ _ r0)
        have m2 := m1.kp zc.kp (fun q hq => by
          simp
          intro z
          have h1 := (z0.2.1 q (List.mem_append_right _ hq)).2
          rw [z, hq0] at h1
          exact h1 rfl)
        refine mp_ast hE.1 hI r2 3 rfl hc1 (r := (nm_T, tf_T, 2)) rfl (vp_in_nI (by omega) (by omega)) dB_init_35 (fun H locs hI => ?_)
        rw [nI_clamp (by omega)] at hI
        obtain ⟨y3, hy3⟩ : ∃ z, mp_up y2 ra (ob_R K (va_up g i (some t))) = z := ⟨_, rfl⟩
        have hI : mp_I D cl_all (mp_A w s.heap.size) s.heap y3 H locs := by rw [← hy3]; exact hI
        have zp : fz [ra] [] y2 y3 := by rw [← hy3]; exact fz.upd (mp_some r2) (by simp)
        have e3 := zp.kp _ _ e2 (by simp; intro z; rw [← z, e2] at r2; cases r2)
        have r3 : y3 ra = some (ob_R K (va_up g i (some t))) := by rw [← hy3]; exact mp_up_self ..
        have nra2 : ∀ q z, y2 q = some z → (∀ f, z ≠ ob_R K f) → q ∉ [ra] := fun q z h hf => by
          simp
          intro e
          rw [e, r2] at h
          exact hf _ (Option.some.inj h).symm
        have hc1 := zp.kp _ _ hc1 (nra2 _ _ hc1 (fun f h => by cases h))
        have hc2 := zp.kp _ _ hc2 (nra2 _ _ hc2 (fun f h => absurd (show (8 : Nat) = 16 from congrArg (fun z : va_E => match z with | .inl q => q.2.1 | .inr _ => 0) h) (by decide)))
        have zz := (z0.tr (zn.tr zc (fun q hq => Or.inr hq)) (fun q hq => Or.inl hq)).tr zp (fun q hq => Or.inr (by simp at hq; subst hq; simp))
        have nrL : ra ∉ L := (List.nodup_cons.mp z0.1).1
        have m3 := m2.kp zp.kp (fun q hq => by
          simp
          intro e
          exact nrL (by rw [← e]; exact hq))
        have hm : mk_r K y3 (va_up g i (some t)) (L ++ [t, a]) (i + 1) := by
          have hlen := m3.1
          refine ⟨by simp; omega, fun j hj => ?_⟩
          by_cases hji : j = i
          · subst hji
            refine ⟨t, a, ?_, ?_, ?_, hc1, hc2⟩
            · rw [List.getElem?_append_right (by omega), hlen]; simp
            · rw [List.getElem?_append_right (by omega), hlen, show 2 * j + 1 - 2 * j = 1 by omega]; rfl
            · unfold va_up; rw [if_pos rfl]
          · obtain ⟨t', a', h1, h2, h3, h4, h5⟩ := m3.2 j (by omega)
            refine ⟨t', a', ?_, ?_, ?_, h4, h5⟩
            · rw [List.getElem?_append_left (by omega)]; exact h1
            · rw [List.getElem?_append_left (by omega)]; exact h2
            · unfold va_up; rw [if_neg hji]; exact h3
        refine lv_iinc (k := 0) (v := nI (i + 1)) hx hb dB_init_36 hl rfl (nI_1 i) (by decide) rfl (fun ls hl => ?_)
        refine lv_goto (tgt := 15) hx hb dB_init_39 (by decide) ?_
        refine W.widen (k := 1 + 2 * (i + 1)) (n := 16 + 10 * (i + 1)) (by omega) (by omega) ?_
        refine ih (i + 1) (L ++ [t, a]) _ y3 ls H locs (by omega) ?_ e3 r3 hm hI hl
        have hz : ([ra] ++ L) ++ ([t] ++ [a]) ++ [] = [ra] ++ (L ++ [t, a]) := by simp
        rw [hz] at zz
        exact zz
  exact loop 16 0 [] (fun _ => none) x2 ls H locs rfl (by simpa using z02) e2 r2 ⟨rfl, fun j hj => by omega⟩ hI hl
end KC3
end
section
/-! counting the bits of a long: what Long.bitCount does, by bytes -/
def sd_V : List Nat → Nat
  | [] => 0
  | d :: ds => d + 256 * sd_V ds
theorem sd_bit {a : Nat} (ha : a < 256) (b i : Nat) : (a + 256 * b).testBit i = if i < 8 then a.testBit i else b.testBit (i - 8) := by
  have h := Nat.testBit_two_pow_mul_add b (i := 8) (b := a) ha i
  rw [show 2 ^ 8 * b + a = a + 256 * b by omega] at h
  exact h
theorem sd_and {a m : Nat} (ha : a < 256) (hm : m < 256) (b n : Nat) : (a + 256 * b) &&& (m + 256 * n) = (a &&& m) + 256 * (b &&& n) := by
  apply Nat.eq_of_testBit_eq
  intro i
  have h1 : a &&& m < 256 := Nat.lt_of_le_of_lt Nat.and_le_left ha
  rw [Nat.testBit_and, sd_bit ha, sd_bit hm, sd_bit h1]
  split
  · rw [Nat.testBit_and]
  · rw [Nat.testBit_and]
theorem sd_shr {a m k : Nat} (ha : a < 256) (hk : k ≤ 7) (hm : m < 2 ^ (8 - k)) (b n : Nat) : ((a + 256 * b) >>> k) &&& (m + 256 * n) = ((a >>> k) &&& m) + 256 * ((b >>> k) &&& n) := by
  have hm8 : m < 256 := Nat.lt_of_lt_of_le hm (Nat.pow_le_pow_right (by decide) (show 8 - k ≤ 8 by omega))
  apply Nat.eq_of_testBit_eq
  intro i
  have h1 : (a >>> k) &&& m < 256 := Nat.lt_of_le_of_lt Nat.and_le_right hm8
  rw [Nat.testBit_and, Nat.testBit_shiftRight, sd_bit ha, sd_bit hm8, sd_bit h1]
  by_cases hi : i < 8
  · rw [if_pos hi, if_pos hi, Nat.testBit_and, Nat.testBit_shiftRight]
    by_cases hki : k + i < 8
    · rw [if_pos hki]
    · have : m.testBit i = false := Nat.testBit_lt_two_pow (Nat.lt_of_lt_of_le hm (Nat.pow_le_pow_right (by decide) (by omega)))
      rw [this, Bool.and_false, Bool.and_false]
  · rw [if_neg hi, if_neg hi, if_neg (by omega), Nat.testBit_and, Nat.testBit_shiftRight, show k + i - 8 = k + (i - 8) by omega]
theorem sd_mand {m : Nat} (hm : m < 256) (ds : List Nat) (h : ∀ d ∈ ds, d < 256) : sd_V ds &&& sd_V (ds.map (fun _ => m)) = sd_V (ds.map (fun d => d &&& m)) := by
  induction ds with
  | nil => show 0 &&& 0 = 0; exact Nat.and_zero _
  | cons d ds ih =>
    show (d + 256 * sd_V ds) &&& (m + 256 * sd_V (ds.map (fun _ => m))) = (d &&& m) + 256 * sd_V (ds.map (fun d => d &&& m))
    rw [sd_and (h d (List.mem_cons_self ..)) hm, ih (fun x hx => h x (List.mem_cons_of_mem _ hx))]
theorem sd_mshr {m k : Nat} (hk : k ≤ 7) (hm : m < 2 ^ (8 - k)) (ds : List Nat) (h : ∀ d ∈ ds, d < 256) : (sd_V ds >>> k) &&& sd_V (ds.map (fun _ => m)) = sd_V (ds.map (fun d => (d >>> k) &&& m)) := by
  induction ds with
  | nil => show (0 >>> k) &&& 0 = 0; exact Nat.and_zero _
  | cons d ds ih =>
    show ((d + 256 * sd_V ds) >>> k) &&& (m + 256 * sd_V (ds.map (fun _ => m))) = ((d >>> k) &&& m) + 256 * sd_V (ds.map (fun d => (d >>> k) &&& m))
    rw [sd_shr (h d (List.mem_cons_self ..)) hk hm, ih (fun x hx => h x (List.mem_cons_of_mem _ hx))]
theorem sd_madd (f g : Nat → Nat) (ds : List Nat) : sd_V (ds.map f) + sd_V (ds.map g) = sd_V (ds.map (fun d => f d + g d)) := by
  induction ds with
  | nil => rfl
  | cons d ds ih =>
    show (f d + 256 * sd_V (ds.map f)) + (g d + 256 * sd_V (ds.map g)) = (f d + g d) + 256 * sd_V (ds.map (fun d => f d + g d))
    omega
def sd_1 (d : Nat) : Nat := d - ((d >>> 1) &&& 85)
def sd_2 (d : Nat) : Nat := (d &&& 51) + ((d >>> 2) &&& 51)
def sd_3 (d : Nat) : Nat := (d &&& 15) + ((d >>> 4) &&& 15)
theorem sd_b1 : ∀ d, d < 256 → ((d >>> 1) &&& 85) + sd_1 d = d ∧ sd_1 d < 256 := by decide +kernel
theorem sd_b2 : ∀ d, d < 256 → sd_2 (sd_1 d) < 256 := by decide +kernel
theorem sd_b3 : ∀ d, d < 256 → sd_2 (sd_1 d) % 16 < 8 ∧ sd_2 (sd_1 d) / 16 < 8 := by decide +kernel
theorem sd_b4 : ∀ d, d < 256 → sd_3 (sd_2 (sd_1 d)) = nc_n (fun i => d.testBit i) 8 := by decide +kernel
theorem sd_b5 : ∀ d, d < 256 → sd_3 (sd_2 (sd_1 d)) ≤ 8 := by decide +kernel
theorem sd_15 (a : Nat) : a &&& 15 = a % 16 := Nat.and_two_pow_sub_one_eq_mod a 4
theorem sd_m3 (ds : List Nat) (h : ∀ d ∈ ds, d % 16 < 8 ∧ d / 16 < 8) : (sd_V ds + (sd_V ds >>> 4)) &&& sd_V (ds.map (fun _ => 15)) = sd_V (ds.map sd_3) ∧ sd_V ds % 16 < 8 := by
  induction ds with
  | nil => exact ⟨Nat.and_zero _, by decide⟩
  | cons d ds ih =>
    obtain ⟨h1, h2⟩ := ih (fun x hx => h x (List.mem_cons_of_mem _ hx))
    obtain ⟨h3, h4⟩ := h d (List.mem_cons_self ..)
    have e4 : ∀ x : Nat, x >>> 4 = x / 16 := fun x => Nat.shiftRight_eq_div_pow x 4
    show ((d + 256 * sd_V ds) + ((d + 256 * sd_V ds) >>> 4)) &&& (15 + 256 * sd_V (ds.map (fun _ => 15))) = sd_3 d + 256 * sd_V (ds.map sd_3) ∧ (d + 256 * sd_V ds) % 16 < 8
    refine ⟨?_, by omega⟩
    have e : (d + 256 * sd_V ds) + ((d + 256 * sd_V ds) >>> 4) = (d + d / 16 + 16 * (sd_V ds % 16)) + 256 * (sd_V ds + (sd_V ds >>> 4)) := by
      rw [e4, e4]
      omega
    have h5 : sd_3 d = d % 16 + d / 16 := by
      unfold sd_3
      rw [sd_15, sd_15, e4]
      omega
    rw [e, sd_and (by omega) (by decide), h1, sd_15, h5]
    omega
def sd_w (n : Nat) : Nat :=
  let a := n - ((n >>> 1) &&& 6148914691236517205)
  let b := (a &&& 3689348814741910323) + ((a >>> 2) &&& 3689348814741910323)
  let c := (b + (b >>> 4)) &&& 1085102592571150095
  let d := c + (c >>> 8)
  let e := d + (d >>> 16)
  (e + (e >>> 32)) % 128
theorem nc_add (f : Nat → Bool) (a : Nat) : ∀ b, nc_n f (a + b) = nc_n f a + nc_n (fun i => f (a + i)) b := by
  intro b
  induction b with
  | zero => rfl
  | succ b ih =>
    show nc_n f (a + b) + (if f (a + b) = true then 1 else 0) = nc_n f a + (nc_n (fun i => f (a + i)) b + (if f (a + b) = true then 1 else 0))
    rw [ih]
    exact Nat.add_assoc ..
theorem nc_ext {f g : Nat → Bool} : ∀ n, (∀ i, i < n → f i = g i) → nc_n f n = nc_n g n := by
  intro n
  induction n with
  | zero => intro _; rfl
  | succ n ih =>
    intro h
    show nc_n f n + (if f n = true then 1 else 0) = nc_n g n + (if g n = true then 1 else 0)
    rw [ih (fun i hi => h i (by omega)), h n (by omega)]
theorem sd_dig (n k : Nat) : nc_n (fun i => (n / 2 ^ k % 256).testBit i) 8 = nc_n (fun i => n.testBit (k + i)) 8 := by
  refine nc_ext 8 (fun i hi => ?_)
  rw [show (256 : Nat) = 2 ^ 8 from rfl, Nat.testBit_mod_two_pow, Nat.testBit_div_two_pow, decide_eq_true hi, Bool.true_and, Nat.add_comm]
set_option maxRecDepth 10000 in
theorem sd_main (n : Nat) (hn : n < 18446744073709551616) : sd_w n = nc_n (fun i => n.testBit i) 64 := by
  obtain ⟨ds, hds⟩ : ∃ ds, ds = [n % 256, n / 256 % 256, n / 65536 % 256, n / 16777216 % 256, n / 4294967296 % 256, n / 1099511627776 % 256, n / 281474976710656 % 256, n / 72057594037927936 % 256] := ⟨_, rfl⟩
  have hb : ∀ d ∈ ds, d < 256 := by
    intro d hd
    rw [hds] at hd
    simp only [List.mem_cons, List.not_mem_nil, or_false] at hd
    omega
  have hV : n = sd_V ds := by
    rw [hds]
    show n = n % 256 + 256 * (n / 256 % 256 + 256 * (n / 65536 % 256 + 256 * (n / 16777216 % 256 + 256 * (n / 4294967296 % 256 + 256 * (n / 1099511627776 % 256 + 256 * (n / 281474976710656 % 256 + 256 * (n / 72057594037927936 % 256 + 256 * 0)))))))
    omega
  have hl : ds.length = 8 := by rw [hds]; rfl
  have mask : ∀ m M : Nat, sd_V [m, m, m, m, m, m, m, m] = M → ∀ f : Nat → Nat, sd_V ((ds.map f).map (fun _ => m)) = M := by
    intro m M h f
    rw [hds]
    exact h
  have mask0 : ∀ m M : Nat, sd_V [m, m, m, m, m, m, m, m] = M → sd_V (ds.map (fun _ => m)) = M := by
    intro m M h
    rw [hds]
    exact h
  have mm : ∀ (f : Nat → Nat) (P : Nat → Prop), (∀ d, d < 256 → P (f d)) → ∀ x ∈ ds.map f, P x := by
    intro f P h x hx
    obtain ⟨d, hd, rfl⟩ := List.mem_map.mp hx
    exact h d (hb d hd)
  have s1 : n - ((n >>> 1) &&& 6148914691236517205) = sd_V (ds.map sd_1) := by
    have h1 := sd_mshr (m := 85) (k := 1) (by decide) (by decide) ds hb
    rw [mask0 85 6148914691236517205 (by decide +kernel), ← hV] at h1
    have h2 := sd_madd (fun d => (d >>> 1) &&& 85) sd_1 ds
    have h3 : sd_V (ds.map (fun d => ((d >>> 1) &&& 85) + sd_1 d)) = n := by
      rw [show ds.map (fun d => ((d >>> 1) &&& 85) + sd_1 d) = ds.map id from List.map_congr_left (fun d hd => (sd_b1 d (hb d hd)).1), List.map_id, ← hV]
    rw [h1]
    omega
  have s2 : (sd_V (ds.map sd_1) &&& 3689348814741910323) + ((sd_V (ds.map sd_1) >>> 2) &&& 3689348814741910323) = sd_V (ds.map (fun d => sd_2 (sd_1 d))) := by
    have hb1 := mm sd_1 (fun x => x < 256) (fun d hd => (sd_b1 d hd).2)
    have h1 := sd_mand (m := 51) (by decide) (ds.map sd_1) hb1
    have h2 := sd_mshr (m := 51) (k := 2) (by decide) (by decide) (ds.map sd_1) hb1
    rw [mask 51 3689348814741910323 (by decide +kernel)] at h1 h2
    rw [h1, h2, sd_madd, List.map_map]
    rfl
  have s3 : (sd_V (ds.map (fun d => sd_2 (sd_1 d))) + (sd_V (ds.map (fun d => sd_2 (sd_1 d))) >>> 4)) &&& 1085102592571150095 = sd_V (ds.map (fun d => sd_3 (sd_2 (sd_1 d)))) := by
    have h1 := (sd_m3 (ds.map (fun d => sd_2 (sd_1 d))) (mm _ (fun x => x % 16 < 8 ∧ x / 16 < 8) (fun d hd => sd_b3 d hd))).1
    rw [mask 15 1085102592571150095 (by decide +kernel), List.map_map] at h1
    exact h1
  unfold sd_w
  rw [s1]
  simp only []
  rw [s2, s3]
  have hc : ∀ x ∈ ds.map (fun d => sd_3 (sd_2 (sd_1 d))), x ≤ 8 := mm _ (fun x => x ≤ 8) (fun d hd => sd_b5 d hd)
  have hsum : (ds.map (fun d => sd_3 (sd_2 (sd_1 d)))).sum = nc_n (fun i => n.testBit i) 64 := by
    rw [hds]
    have q : ∀ k, sd_3 (sd_2 (sd_1 (n / 2 ^ k % 256))) = nc_n (fun i => n.testBit (k + i)) 8 := fun k => by rw [sd_b4 _ (Nat.mod_lt _ (by decide)), sd_dig]
    have q0 := q 0
    have q1 := q 8
    have q2 := q 16
    have q3 := q 24
    have q4 := q 32
    have q5 := q 40
    have q6 := q 48
    have q7 := q 56
    rw [show n / 2 ^ 0 = n by simp] at q0
    have hs : nc_n (fun i => n.testBit i) (8 + (8 + (8 + (8 + (8 + (8 + (8 + 8))))))) = nc_n (fun i => n.testBit i) 64 := rfl
    rw [← hs]
    simp only [nc_add]
    simp only [List.map_cons, List.map_nil, List.sum_cons, List.sum_nil]
    simp only [Nat.zero_add] at q0
    rw [q0]
    have r : ∀ (k : Nat) (c : Nat), 2 ^ k = c → sd_3 (sd_2 (sd_1 (n / c % 256))) = nc_n (fun i => n.testBit (k + i)) 8 := fun k c h => by rw [← h]; exact q k
    rw [r 8 256 rfl, r 16 65536 rfl, r 24 16777216 rfl, r 32 4294967296 rfl, r 40 1099511627776 rfl, r 48 281474976710656 rfl, r 56 72057594037927936 rfl]
    simp only [← Nat.add_assoc]
    rfl
  rw [← hsum]
  obtain ⟨cs, hcs⟩ : ∃ cs, ds.map (fun d => sd_3 (sd_2 (sd_1 d))) = cs := ⟨_, rfl⟩
  have hl2 : cs.length = 8 := by rw [← hcs, List.length_map]; exact hl
  rw [hcs] at hc ⊢
  have e : ∀ k x : Nat, x >>> k = x / 2 ^ k := fun k x => Nat.shiftRight_eq_div_pow x k
  match cs, hl2 with
  | [c0, c1, c2, c3, c4, c5, c6, c7], _ =>
    have b0 := hc c0 (by simp)
    have b1 := hc c1 (by simp)
    have b2 := hc c2 (by simp)
    have b3 := hc c3 (by simp)
    have b4 := hc c4 (by simp)
    have b5 := hc c5 (by simp)
    have b6 := hc c6 (by simp)
    have b7 := hc c7 (by simp)
    have hs : [c0, c1, c2, c3, c4, c5, c6, c7].sum = c0 + c1 + c2 + c3 + c4 + c5 + c6 + c7 := by
      simp only [List.sum_cons, List.sum_nil]
      omega
    rw [hs]
    show ((sd_V [c0, c1, c2, c3, c4, c5, c6, c7] + sd_V [c0, c1, c2, c3, c4, c5, c6, c7] >>> 8) + (sd_V [c0, c1, c2, c3, c4, c5, c6, c7] + sd_V [c0, c1, c2, c3, c4, c5, c6, c7] >>> 8) >>> 16 + ((sd_V [c0, c1, c2, c3, c4, c5, c6, c7] + sd_V [c0, c1, c2, c3, c4, c5, c6, c7] >>> 8) + (sd_V [c0, c1, c2, c3, c4, c5, c6, c7] + sd_V [c0, c1, c2, c3, c4, c5, c6, c7] >>> 8) >>> 16) >>> 32) % 128 = _
    have v1 : sd_V [c0, c1, c2, c3, c4, c5, c6, c7] + sd_V [c0, c1, c2, c3, c4, c5, c6, c7] >>> 8 = (c0 + c1) + 256 * ((c1 + c2) + 256 * ((c2 + c3) + 256 * ((c3 + c4) + 256 * ((c4 + c5) + 256 * ((c5 + c6) + 256 * ((c6 + c7) + 256 * c7)))))) := by
      rw [e]
      simp only [sd_V]
      omega
    rw [v1]
    have v2 : ∀ d0 d1 d2 d3 d4 d5 d6 d7 : Nat, d0 ≤ 16 → d1 ≤ 16 → d2 ≤ 16 → d3 ≤ 16 → d4 ≤ 16 → d5 ≤ 16 → d6 ≤ 16 → d7 ≤ 16 → (d0 + 256 * (d1 + 256 * (d2 + 256 * (d3 + 256 * (d4 + 256 * (d5 + 256 * (d6 + 256 * d7))))))) + (d0 + 256 * (d1 + 256 * (d2 + 256 * (d3 + 256 * (d4 + 256 * (d5 + 256 * (d6 + 256 * d7))))))) >>> 16 = (d0 + d2) + 256 * ((d1 + d3) + 256 * ((d2 + d4) + 256 * ((d3 + d5) + 256 * ((d4 + d6) + 256 * ((d5 + d7) + 256 * (d6 + 256 * d7)))))) := by
      intro d0 d1 d2 d3 d4 d5 d6 d7 h0 h1 h2 h3 h4 h5 h6 h7
      rw [e]
      omega
    rw [v2 _ _ _ _ _ _ _ _ (by omega) (by omega) (by omega) (by omega) (by omega) (by omega) (by omega) (by omega)]
    have v3 : ∀ d0 d1 d2 d3 d4 d5 d6 d7 : Nat, d0 ≤ 32 → d1 ≤ 32 → d2 ≤ 32 → d3 ≤ 32 → d4 ≤ 32 → ((d0 + 256 * (d1 + 256 * (d2 + 256 * (d3 + 256 * (d4 + 256 * (d5 + 256 * (d6 + 256 * d7))))))) + (d0 + 256 * (d1 + 256 * (d2 + 256 * (d3 + 256 * (d4 + 256 * (d5 + 256 * (d6 + 256 * d7))))))) >>> 32) % 128 = d0 + d4 := by
      intro d0 d1 d2 d3 d4 d5 d6 d7 h0 h1 h2 h3 h4
      rw [e]
      have : (d0 + 256 * (d1 + 256 * (d2 + 256 * (d3 + 256 * (d4 + 256 * (d5 + 256 * (d6 + 256 * d7))))))) / 2 ^ 32 = d4 + 256 * (d5 + 256 * (d6 + 256 * d7)) := by omega
      rw [this]
      omega
    rw [v3 _ _ _ _ _ _ _ _ (by omega) (by omega) (by omega) (by omega) (by omega)]
    omega
end
section
/-! Long.bitCount, Term.differentFree -/
def sj (x : Int64) : Nat := x.toBitVec.toNat
theorem sj_lt (x : Int64) : sj x < 18446744073709551616 := x.toBitVec.isLt
theorem sj_and (x y : Int64) : sj (x &&& y) = sj x &&& sj y := by unfold sj; rw [Int64.toBitVec_and, BitVec.toNat_and]
theorem sj_or (x y : Int64) : sj (x ||| y) = sj x ||| sj y := by unfold sj; rw [Int64.toBitVec_or, BitVec.toNat_or]
theorem sj_add (x y : Int64) : sj (x + y) = (sj x + sj y) % 18446744073709551616 := by unfold sj; rw [Int64.toBitVec_add, BitVec.toNat_add]
theorem sj_sub {x y : Int64} (h : sj y ≤ sj x) : sj (x - y) = sj x - sj y := by unfold sj at h ⊢; rw [Int64.toBitVec_sub, BitVec.toNat_sub_of_le h]
theorem sj_shr (x : Int64) {y : Int32} {k : Nat} (hk : ((y.toInt64.toUInt64 &&& Int64.toUInt64 63).toBitVec % 64).toNat = k) : sj ((x.toUInt64 >>> (y.toInt64.toUInt64 &&& Int64.toUInt64 63)).toInt64) = sj x >>> k := by
  show (x.toUInt64 >>> (y.toInt64.toUInt64 &&& Int64.toUInt64 63)).toBitVec.toNat = x.toUInt64.toBitVec.toNat >>> k
  rw [UInt64.toBitVec_shiftRight]
  show (x.toUInt64.toBitVec >>> ((y.toInt64.toUInt64 &&& Int64.toUInt64 63).toBitVec % 64).toNat).toNat = _
  rw [hk, BitVec.toNat_ushiftRight]
theorem sj_127 (x : Int64) : x.toInt32 &&& 127 = nI (sj x % 128) := by
  apply Int32.toBitVec_inj.mp
  apply BitVec.eq_of_toNat_eq
  rw [Int32.toBitVec_and, BitVec.toNat_and]
  have h1 : (x.toInt32).toBitVec.toNat = sj x % 4294967296 := by
    rw [Int64.toBitVec_toInt32, BitVec.signExtend_eq_setWidth_of_le _ (by decide), BitVec.toNat_setWidth]
    rfl
  have h2 : (127 : Int32).toBitVec.toNat = 2 ^ 7 - 1 := by decide
  have h3 : (nI (sj x % 128)).toBitVec.toNat = sj x % 128 := by
    have : sj x % 128 < 128 := Nat.mod_lt _ (by decide)
    exact (by decide +kernel : ∀ n, n < 128 → (nI n).toBitVec.toNat = n) _ this
  rw [h1, h2, Nat.and_two_pow_sub_one_eq_mod, h3]
  omega
theorem sj_one : ∀ c, c < 64 → sj ((1 : Int64) <<< ((nI c).toInt64 &&& 63)) = 2 ^ c := by decide +kernel
section KJ
variable {l : Launch} {n0 : Nat} {D : va_G} {K : Nat → ClassId} {w : mp_W}
theorem dj_0 : decode cJ_bitCount 0 = .ok (.lload_n 0, 1) := by decide +kernel
theorem dj_1 : decode cJ_bitCount 1 = .ok (.lload_n 0, 1) := by decide +kernel
theorem dj_2 : decode cJ_bitCount 2 = .ok (.iconst 1, 1) := by decide +kernel
theorem dj_3 : decode cJ_bitCount 3 = .ok (.lushr, 1) := by decide +kernel
theorem dj_4 : decode cJ_bitCount 4 = .ok (.ldc2_w 314, 3) := by decide +kernel
theorem dj_7 : decode cJ_bitCount 7 = .ok (.land, 1) := by decide +kernel
theorem dj_8 : decode cJ_bitCount 8 = .ok (.lsub, 1) := by decide +kernel
theorem dj_9 : decode cJ_bitCount 9 = .ok (.lstore_n 0, 1) := by decide +kernel
theorem dj_10 : decode cJ_bitCount 10 = .ok (.lload_n 0, 1) := by decide +kernel
theorem dj_11 : decode cJ_bitCount 11 = .ok (.ldc2_w 316, 3) := by decide +kernel
theorem dj_14 : decode cJ_bitCount 14 = .ok (.land, 1) := by decide +kernel
theorem dj_15 : decode cJ_bitCount 15 = .ok (.lload_n 0, 1) := by decide +kernel
theorem dj_16 : decode cJ_bitCount 16 = .ok (.iconst 2, 1) := by decide +kernel
theorem dj_17 : decode cJ_bitCount 17 = .ok (.lushr, 1) := by decide +kernel
theorem dj_18 : decode cJ_bitCount 18 = .ok (.ldc2_w 316, 3) := by decide +kernel
theorem dj_21 : decode cJ_bitCount 21 = .ok (.land, 1) := by decide +kernel
theorem dj_22 : decode cJ_bitCount 22 = .ok (.ladd, 1) := by decide +kernel
theorem dj_23 : decode cJ_bitCount 23 = .ok (.lstore_n 0, 1) := by decide +kernel
theorem dj_24 : decode cJ_bitCount 24 = .ok (.lload_n 0, 1) := by decide +kernel
theorem dj_25 : decode cJ_bitCount 25 = .ok (.lload_n 0, 1) := by decide +kernel
theorem dj_26 : decode cJ_bitCount 26 = .ok (.iconst 4, 1) := by decide +kernel
theorem dj_27 : decode cJ_bitCount 27 = .ok (.lushr, 1) := by decide +kernel
theorem dj_28 : decode cJ_bitCount 28 = .ok (.ladd, 1) := by decide +kernel
theorem dj_29 : decode cJ_bitCount 29 = .ok (.ldc2_w 318, 3) := by decide +kernel
theorem dj_32 : decode cJ_bitCount 32 = .ok (.land, 1) := by decide +kernel
theorem dj_33 : decode cJ_bitCount 33 = .ok (.lstore_n 0, 1) := by decide +kernel
theorem dj_34 : decode cJ_bitCount 34 = .ok (.lload_n 0, 1) := by decide +kernel
theorem dj_35 : decode cJ_bitCount 35 = .ok (.lload_n 0, 1) := by decide +kernel
theorem dj_36 : decode cJ_bitCount 36 = .ok (.bipush 8, 2) := by decide +kernel
theorem dj_38 : decode cJ_bitCount 38 = .ok (.lushr, 1) := by decide +kernel
theorem dj_39 : decode cJ_bitCount 39 = .ok (.ladd, 1) := by decide +kernel
theorem dj_40 : decode cJ_bitCount 40 = .ok (.lstore_n 0, 1) := by decide +kernel
theorem dj_41 : decode cJ_bitCount 41 = .ok (.lload_n 0, 1) := by decide +kernel
theorem dj_42 : decode cJ_bitCount 42 = .ok (.lload_n 0, 1) := by decide +kernel
theorem dj_43 : decode cJ_bitCount 43 = .ok (.bipush 16, 2) := by decide +kernel
theorem dj_45 : decode cJ_bitCount 45 = .ok (.lushr, 1) := by decide +kernel
theorem dj_46 : decode cJ_bitCount 46 = .ok (.ladd, 1) := by decide +kernel
theorem dj_47 : decode cJ_bitCount 47 = .ok (.lstore_n 0, 1) := by decide +kernel
theorem dj_48 : decode cJ_bitCount 48 = .ok (.lload_n 0, 1) := by decide +kernel
theorem dj_49 : decode cJ_bitCount 49 = .ok (.lload_n 0, 1) := by decide +kernel
theorem dj_50 : decode cJ_bitCount 50 = .ok (.bipush 32, 2) := by decide +kernel
theorem dj_52 : decode cJ_bitCount 52 = .ok (.lushr, 1) := by decide +kernel
theorem dj_53 : decode cJ_bitCount 53 = .ok (.ladd, 1) := by decide +kernel
theorem dj_54 : decode cJ_bitCount 54 = .ok (.lstore_n 0, 1) := by decide +kernel
theorem dj_55 : decode cJ_bitCount 55 = .ok (.lload_n 0, 1) := by decide +kernel
theorem dj_56 : decode cJ_bitCount 56 = .ok (.l2i, 1) := by decide +kernel
theorem dj_57 : decode cJ_bitCount 57 = .ok (.bipush 127, 2) := by decide +kernel
theorem dj_59 : decode cJ_bitCount 59 = .ok (.iand, 1) := by decide +kernel
theorem dj_60 : decode cJ_bitCount 60 = .ok (.ireturn, 1) := by decide +kernel
/-- no sum on the way passes 2^64 -/
theorem sd_fit (n : Nat) (hn : n < 18446744073709551616) (a1 a2 a3 a4 a5 a6 : Nat) (h1 : a1 = n - ((n >>> 1) &&& 6148914691236517205)) (h2 : a2 = ((a1 &&& 3689348814741910323) + ((a1 >>> 2) &&& 3689348814741910323)) % 18446744073709551616) (h3 : a3 = ((a2 + (a2 >>> 4)) % 18446744073709551616) &&& 1085102592571150095) (h4 : a4 = (a3 + a3 >>> 8) % 18446744073709551616) (h5 : a5 = (a4 + a4 >>> 16) % 18446744073709551616) (h6 : a6 = (a5 + a5 >>> 32) % 18446744073709551616) : a6 % 128 = nc_n (fun i => n.testBit i) 64 := by
  rw [← sd_main n hn]
  unfold sd_w
  simp only []
  rw [← h1]
  have e : ∀ k x : Nat, x >>> k = x / 2 ^ k := fun k x => Nat.shiftRight_eq_div_pow x k
  have m2 : (a1 &&& 3689348814741910323) + ((a1 >>> 2) &&& 3689348814741910323) ≤ 7378697629483820646 := by
    have := @Nat.and_le_right a1 3689348814741910323
    have := @Nat.and_le_right (a1 >>> 2) 3689348814741910323
    omega
  rw [Nat.mod_eq_of_lt (by omega)] at h2
  rw [← h2]
  have m3 : a2 + a2 >>> 4 < 18446744073709551616 := by rw [e]; omega
  rw [Nat.mod_eq_of_lt m3] at h3
  rw [← h3]
  have m4 : a3 ≤ 1085102592571150095 := by rw [h3]; exact Nat.and_le_right
  have m5 : a3 + a3 >>> 8 < 2170205185142300191 := by rw [e]; omega
  rw [Nat.mod_eq_of_lt (by omega)] at h4
  rw [← h4]
  have m6 : a4 + a4 >>> 16 < 4340410370284600382 := by rw [e]; omega
  rw [Nat.mod_eq_of_lt (by omega)] at h5
  rw [← h5]
  have m7 : a5 + a5 >>> 32 < 18446744073709551616 := by rw [e]; omega
  rw [Nat.mod_eq_of_lt m7] at h6
  rw [← h6]
set_option maxRecDepth 100000 in
theorem kJ_bitCount (x : Int64) : ct_M l n0 D K yJ_bitCount (Cond.code yJ_bitCount cJ_bitCount 2 (some .int)) 0 0 0 0 [.long x] w (fun v w' => w' = w ∧ v = some (.int (nI (nc_n (fun i => (sj x).testBit i) 64)))) := by
  refine ct_go (own := "java/lang/Long") (by decide) rfl (Nat.le_of_ble_eq_true rfl) ?_
  intro p e s m below meth c ls hE hI hr hk hn hl
  have hx := hE.1.1.1
  have hb := hE.1.1.2.1
  have hown := hE.1.1.2.2.2.1
  have hl : lv_has ls 2 [(0, .long x)] := hl
  refine lv_lload_n hx hb dj_0 rfl (lv_at hl 0 rfl) ?_
  refine lv_lload_n hx hb dj_1 rfl (lv_at hl 0 rfl) ?_
  refine lv_iconst (v := 1) hx hb dj_2 (by decide) ?_
  refine lv_lushr hx hb dj_3 rfl ?_
  refine lv_ldc2 hx hb hown (ct_w hE gq_Jl314) dj_4 ?_
  refine lv_land hx hb dj_7 ?_
  refine lv_lsub hx hb dj_8 ?_
  obtain ⟨y1, hy1⟩ : ∃ z, x - ((x.toUInt64 >>> ((1 : Int32).toInt64.toUInt64 &&& Int64.toUInt64 63)).toInt64 &&& 6148914691236517205) = z := ⟨_, rfl⟩
  rw [hy1]
  have e1 : sj y1 = sj x - ((sj x >>> 1) &&& 6148914691236517205) := by
    have h0 : sj ((x.toUInt64 >>> ((1 : Int32).toInt64.toUInt64 &&& Int64.toUInt64 63)).toInt64 &&& 6148914691236517205) = (sj x >>> 1) &&& 6148914691236517205 := by
      rw [sj_and, sj_shr x (k := 1) (by decide)]
      rfl
    rw [← hy1, sj_sub, h0]
    rw [h0]
    refine Nat.le_trans Nat.and_le_left ?_
    rw [Nat.shiftRight_eq_div_pow]
    exact Nat.div_le_self ..
  refine lv_lstore_n hx hb dj_9 rfl hl (by decide) rfl (fun ls hl => ?_)
  refine lv_lload_n hx hb dj_10 rfl (lv_at hl 0 rfl) ?_
  refine lv_ldc2 hx hb hown (ct_w hE gq_Jl316) dj_11 ?_
  refine lv_land hx hb dj_14 ?_
  refine lv_lload_n hx hb dj_15 rfl (lv_at hl 0 rfl) ?_
  refine lv_iconst (v := 2) hx hb dj_16 (by decide) ?_
  refine lv_lushr hx hb dj_17 rfl ?_
  refine lv_ldc2 hx hb hown (ct_w hE gq_Jl316) dj_18 ?_
  refine lv_land hx hb dj_21 ?_
  refine lv_ladd hx hb dj_22 ?_
  obtain ⟨y2, hy2⟩ : ∃ z, (y1 &&& 3689348814741910323) + ((y1.toUInt64 >>> ((2 : Int32).toInt64.toUInt64 &&& Int64.toUInt64 63)).toInt64 &&& 3689348814741910323) = z := ⟨_, rfl⟩
  rw [hy2]
  have e2 : sj y2 = ((sj y1 &&& 3689348814741910323) + ((sj y1 >>> 2) &&& 3689348814741910323)) % 18446744073709551616 := by
    rw [← hy2, sj_add, sj_and, sj_and, sj_shr y1 (k := 2) (by decide)]
    rfl
  refine lv_lstore_n hx hb dj_23 rfl hl (by decide) rfl (fun ls hl => ?_)
  refine lv_lload_n hx hb dj_24 rfl (lv_at hl 0 rfl) ?_
  refine lv_lload_n hx hb dj_25 rfl (lv_at hl 0 rfl) ?_
  refine lv_iconst (v := 4) hx hb dj_26 (by decide) ?_
  refine lv_lushr hx hb dj_27 rfl ?_
  refine lv_ladd hx hb dj_28 ?_
  refine lv_ldc2 hx hb hown (ct_w hE gq_Jl318) dj_29 ?_
  refine lv_land hx hb dj_32 ?_
  obtain ⟨y3, hy3⟩ : ∃ z, (y2 + (y2.toUInt64 >>> ((4 : Int32).toInt64.toUInt64 &&& Int64.toUInt64 63)).toInt64) &&& 1085102592571150095 = z := ⟨_, rfl⟩
  rw [hy3]
  have e3 : sj y3 = ((sj y2 + (sj y2 >>> 4)) % 18446744073709551616) &&& 1085102592571150095 := by
    rw [← hy3, sj_and, sj_add, sj_shr y2 (k := 4) (by decide)]
    rfl
  refine lv_lstore_n hx hb dj_33 rfl hl (by decide) rfl (fun ls hl => ?_)
  refine lv_lload_n hx hb dj_34 rfl (lv_at hl 0 rfl) ?_
  refine lv_lload_n hx hb dj_35 rfl (lv_at hl 0 rfl) ?_
  refine lv_bipush (v := 8) hx hb dj_36 (by decide) ?_
  refine lv_lushr hx hb dj_38 rfl ?_
  refine lv_ladd hx hb dj_39 ?_
  obtain ⟨y4, hy4⟩ : ∃ z, y3 + (y3.toUInt64 >>> ((8 : Int32).toInt64.toUInt64 &&& Int64.toUInt64 63)).toInt64 = z := ⟨_, rfl⟩
  rw [hy4]
  have e4 : sj y4 = (sj y3 + (sj y3 >>> 8)) % 18446744073709551616 := by rw [← hy4, sj_add, sj_shr y3 (k := 8) (by decide)]
  refine lv_lstore_n hx hb dj_40 rfl hl (by decide) rfl (fun ls hl => ?_)
  refine lv_lload_n hx hb dj_41 rfl (lv_at hl 0 rfl) ?_
  refine lv_lload_n hx hb dj_42 rfl (lv_at hl 0 rfl) ?_
  refine lv_bipush (v := 16) hx hb dj_43 (by decide) ?_
  refine lv_lushr hx hb dj_45 rfl ?_
  refine lv_ladd hx hb dj_46 ?_
  obtain ⟨y5, hy5⟩ : ∃ z, y4 + (y4.toUInt64 >>> ((16 : Int32).toInt64.toUInt64 &&& Int64.toUInt64 63)).toInt64 = z := ⟨_, rfl⟩
  rw [hy5]
  have e5 : sj y5 = (sj y4 + (sj y4 >>> 16)) % 18446744073709551616 := by rw [← hy5, sj_add, sj_shr y4 (k := 16) (by decide)]
  refine lv_lstore_n hx hb dj_47 rfl hl (by decide) rfl (fun ls hl => ?_)
  refine lv_lload_n hx hb dj_48 rfl (lv_at hl 0 rfl) ?_
  refine lv_lload_n hx hb dj_49 rfl (lv_at hl 0 rfl) ?_
  refine lv_bipush (v := 32) hx hb dj_50 (by decide) ?_
  refine lv_lushr hx hb dj_52 rfl ?_
  refine lv_ladd hx hb dj_53 ?_
  obtain ⟨y6, hy6⟩ : ∃ z, y5 + (y5.toUInt64 >>> ((32 : Int32).toInt64.toUInt64 &&& Int64.toUInt64 63)).toInt64 = z := ⟨_, rfl⟩
  rw [hy6]
  have e6 : sj y6 = (sj y5 + (sj y5 >>> 32)) % 18446744073709551616 := by rw [← hy6, sj_add, sj_shr y5 (k := 32) (by decide)]
  refine lv_lstore_n hx hb dj_54 rfl hl (by decide) rfl (fun ls hl => ?_)
  refine lv_lload_n hx hb dj_55 rfl (lv_at hl 0 rfl) ?_
  refine lv_l2i hx hb dj_56 rfl ?_
  refine lv_bipush (v := 127) hx hb dj_57 (by decide) ?_
  refine lv_iand hx hb dj_59 ?_
  rw [sj_127, sd_fit (sj x) (sj_lt x) _ _ _ _ _ _ e1 e2 e3 e4 e5 e6]
  exact ct_iret hE hI hr hk ⟨rfl, rfl⟩ (by decide) (by decide) dj_60
/-- which numbers of 0 .. 63 and of 64 .. 99 stand in a row -/
theorem sj_mark (M : List Int) (x : Int64) (c n : Nat) (y : Int) (hc : c < 64) (hy : y = (n + c : Nat)) (h : ∀ i, i < 64 → (sj x).testBit i = decide (((n + i : Nat) : Int) ∈ M)) : ∀ i, i < 64 → (sj (x ||| (1 : Int64) <<< ((nI c).toInt64 &&& 63))).testBit i = decide (((n + i : Nat) : Int) ∈ M ++ [y]) := by
  intro i hi
  rw [sj_or, Nat.testBit_or, h i hi, sj_one c hc, Nat.testBit_two_pow]
  by_cases e : c = i
  · subst e
    simp [hy]
  · have : ((n + i : Nat) : Int) ≠ y := by omega
    rw [decide_eq_false e, Bool.or_false]
    exact decide_eq_decide.mpr (by rw [List.mem_append, List.mem_singleton]; exact (or_iff_left this).symm)
theorem sj_skip (M : List Int) (x : Int64) (n : Nat) (y : Int) (hy : ∀ i, i < 64 → y ≠ (n + i : Nat)) (h : ∀ i, i < 64 → (sj x).testBit i = decide (((n + i : Nat) : Int) ∈ M)) : ∀ i, i < 64 → (sj x).testBit i = decide (((n + i : Nat) : Int) ∈ M ++ [y]) := by
  intro i hi
  rw [h i hi]
  have : ((n + i : Nat) : Int) ≠ y := fun e => hy i hi e.symm
  exact decide_eq_decide.mpr (by rw [List.mem_append, List.mem_singleton]; exact (or_iff_left this).symm)
theorem nc_zero {f : Nat → Bool} : ∀ n, (∀ i, i < n → f i = false) → nc_n f n = 0 := by
  intro n
  induction n with
  | zero => intro _; rfl
  | succ n ih =>
    intro h
    rw [nc_f (h n (by omega))]
    exact ih (fun i hi => h i (by omega))
theorem sj_sum (L : List Int) (x y : Int64) (h1 : ∀ i, i < 64 → (sj x).testBit i = decide (((0 + i : Nat) : Int) ∈ L)) (h2 : ∀ i, i < 64 → (sj y).testBit i = decide (((64 + i : Nat) : Int) ∈ L.filter (fun x => decide (x ≤ 99)))) : nc_n (fun i => (sj x).testBit i) 64 + nc_n (fun i => (sj y).testBit i) 64 = nc_n (fun i => decide ((i : Int) ∈ L)) 100 := by
  rw [show (100 : Nat) = 64 + 36 from rfl, nc_add, show nc_n (fun i => (sj y).testBit i) 64 = nc_n (fun i => (sj y).testBit i) (36 + 28) from rfl, nc_add (fun i => (sj y).testBit i)]
  rw [nc_zero (f := fun i => (sj y).testBit (36 + i)) 28 (fun i hi => by
    rw [h2 (36 + i) (by omega)]
    refine decide_eq_false (fun hm => ?_)
    have := of_decide_eq_true (List.mem_filter.mp hm).2
    omega)]
  rw [nc_ext (f := fun i => (sj x).testBit i) (g := fun i => decide ((i : Int) ∈ L)) 64 (fun i hi => by rw [h1 i hi, Nat.zero_add])]
  rw [nc_ext (f := fun i => (sj y).testBit i) (g := fun i => decide (((64 + i : Nat) : Int) ∈ L)) 36 (fun i hi => by
    rw [h2 i (by omega)]
    refine decide_eq_decide.mpr ⟨fun h => (List.mem_filter.mp h).1, fun h => List.mem_filter.mpr ⟨h, decide_eq_true (by omega)⟩⟩)]
  rfl
set_option maxRecDepth 100000 in
theorem kT_differentFree {t ar cap : Nat} {L : List Int} (hp : pt_R K w t ar cap L) : ct_M l n0 D K yT_differentFree (Cond.code yT_differentFree cT_differentFree 7 (some .int)) 1 30 0 0 [.ref t] w (fun v w' => w' = w ∧ v = some (.int (nI (nc_n (fun i => decide ((i : Int) ∈ L)) 100)))) := by
  obtain ⟨g, kT, kA, kf, kc, kc2, kx⟩ := hp.out
  refine ct_go (own := nm_T) (by decide) rfl (Nat.le_of_ble_eq_true rfl) ?_
  intro p e s m below meth c ls hE hI hr hk hn hl
  have hx := hE.1.1.1
  have hb := hE.1.1.2.1
  have hl : lv_has ls 7 [(0, .ref t)] := hl
  refine lv_lconst (v := 0) hx hb dT_differentFree_0 (by decide) ?_
  refine lv_lstore_n hx hb dT_differentFree_1 rfl hl (by decide) rfl (fun ls hl => ?_)
  refine lv_lconst (v := 0) hx hb dT_differentFree_2 (by decide) ?_
  refine lv_lstore_n hx hb dT_differentFree_3 rfl hl (by decide) rfl (fun ls hl => ?_)
  refine lv_iconst (v := nI 0) hx hb dT_differentFree_4 (by decide) ?_
  refine lv_istore hx hb dT_differentFree_5 hl (by decide) rfl (fun ls hl => ?_)
  have loop : ∀ (k i : Nat) (b1 b2 : Int64) (ls : Array Slot), i + k = L.length → (∀ j, j < 64 → (sj b1).testBit j = decide (((0 + j : Nat) : Int) ∈ L.take i)) → (∀ j, j < 64 → (sj b2).testBit j = decide (((64 + j : Nat) : Int) ∈ (L.take i).filter (fun x => decide (x ≤ 99)))) → lv_has ls 7 [(5, .int (nI i)), (3, .long b2), (1, .long b1), (0, .ref t)] →
      W p l e { frames := 1, cells := 0, slots := 0, locals := 30 } s m ([Value.ref t] : List Value).toArray below meth c s.heap [] 0 0 (MQ below (ct_Q D w s.heap.size (fun v w' => w' = w ∧ v = some (.int (nI (nc_n (fun i => decide ((i : Int) ∈ L)) 100))))) ([Value.ref t] : List Value).toArray s 0 0 (mp_A w s.heap.size)) (F0 m 7 ls []) := by
    intro k
    induction k with
    | zero =>
      intro i b1 b2 ls hik h1 h2 hl
      have hiL : i = L.length := by omega
      subst hiL
      rw [List.take_length] at h1 h2
      refine lv_iload hx hb dT_differentFree_7 (lv_at hl 0 rfl) ?_
      refine lv_aload_n hx hb dT_differentFree_9 rfl (lv_at hl 3 rfl) ?_
      refine mp_get hE.1 hI kT rfl gx_T 1 (by decide) (List.mem_cons_of_mem _ gf_T15) rfl dT_differentFree_10 ?_
      refine lv_icmp_ge (tgt := 77) hx hb dT_differentFree_13 (by decide) (fun hq => ?_) (fun hq => ?_)
      · refine lv_lload_n hx hb dT_differentFree_77 rfl (lv_at hl 2 rfl) ?_
        refine ct_St (n := 1) hE hI (kJ_bitCount b1) gm_T45 gt_J_bitCount gz_Jl gc_J_bitCount (by decide +kernel) ⟨Nat.le_of_ble_eq_true rfl, Nat.le_of_ble_eq_true rfl⟩ rfl hl.1 rfl (Nat.le_of_ble_eq_true rfl) dT_differentFree_78 ⟨Nat.le_of_ble_eq_true rfl, Nat.le_of_ble_eq_true rfl⟩ (fun v w1 H locs hq hI => ?_)
        obtain ⟨hw, rfl⟩ := hq
        subst w1
        show W _ _ _ _ _ _ _ _ _ _ _ _ _ _ _ (F0 _ _ _ [.int _])
        refine lv_lload_n hx hb dT_differentFree_81 rfl (lv_at hl 1 rfl) ?_
        refine ct_St (n := 1) hE hI (kJ_bitCount b2) gm_T45 gt_J_bitCount gz_Jl gc_J_bitCount (by decide +kernel) ⟨Nat.le_of_ble_eq_true rfl, Nat.le_of_ble_eq_true rfl⟩ rfl hl.1 rfl (Nat.le_of_ble_eq_true rfl) dT_differentFree_82 ⟨Nat.le_of_ble_eq_true rfl, Nat.le_of_ble_eq_true rfl⟩ (fun v w1 H locs hq hI => ?_)
        obtain ⟨hw, rfl⟩ := hq
        subst w1
        show W _ _ _ _ _ _ _ _ _ _ _ _ _ _ _ (F0 _ _ _ [.int _, .int _])
        refine lv_iadd hx hb dT_differentFree_85 ?_
        rw [show ∀ a b : Nat, nI a + nI b = nI (a + b) from fun a b => (Int32.ofNat_add a b).symm, sj_sum L b1 b2 h1 h2]
        exact ct_iret hE hI hr hk ⟨rfl, rfl⟩ (by decide) (by decide) dT_differentFree_86
      · exact absurd (nI_le (Nat.le_refl _) (by omega)) hq
    | succ k ih =>
      intro i b1 b2 ls hik h1 h2 hl
      have hi : i < L.length := by omega
      obtain ⟨x, e1, m1⟩ := pt_at hi
      have hxx := kx x m1
      have htk : L.take (i + 1) = L.take i ++ [x] := by rw [List.take_add_one, e1]; rfl
      have next : ∀ (b1 b2 : Int64) (ls : Array Slot), (∀ j, j < 64 → (sj b1).testBit j = decide (((0 + j : Nat) : Int) ∈ L.take (i + 1))) → (∀ j, j < 64 → (sj b2).testBit j = decide (((64 + j : Nat) : Int) ∈ (L.take (i + 1)).filter (fun x => decide (x ≤ 99)))) → lv_has ls 7 [(5, .int (nI i)), (3, .long b2), (1, .long b1), (0, .ref t)] →
          W p l e { frames := 1, cells := 0, slots := 0, locals := 30 } s m ([Value.ref t] : List Value).toArray below meth c s.heap [] 0 0 (MQ below (ct_Q D w s.heap.size (fun v w' => w' = w ∧ v = some (.int (nI (nc_n (fun i => decide ((i : Int) ∈ L)) 100))))) ([Value.ref t] : List Value).toArray s 0 0 (mp_A w s.heap.size)) (F0 m 71 ls []) := by
        intro b1 b2 ls h1 h2 hl
        refine lv_iinc (k := 0) (v := nI (i + 1)) hx hb dT_differentFree_71 hl rfl (nI_1 i) (by decide) rfl (fun ls hl => ?_)
        refine lv_goto (tgt := 7) hx hb dT_differentFree_74 (by decide) ?_
        exact ih (i + 1) b1 b2 ls (by omega) h1 h2 hl
      refine lv_iload hx hb dT_differentFree_7 (lv_at hl 0 rfl) ?_
      refine lv_aload_n hx hb dT_differentFree_9 rfl (lv_at hl 3 rfl) ?_
      refine mp_get hE.1 hI kT rfl gx_T 1 (by decide) (List.mem_cons_of_mem _ gf_T15) rfl dT_differentFree_10 ?_
      refine lv_icmp_ge (tgt := 77) hx hb dT_differentFree_13 (by decide) (fun hq => ?_) (fun hq => ?_)
      · exact absurd ((nI_leI (by omega) (by omega)).mp hq) (by omega)
      · skip
        refine lv_aload_n hx hb dT_differentFree_16 rfl (lv_at hl 3 rfl) ?_
        refine mp_get hE.1 hI kT rfl gx_T 0 (by decide) (List.mem_cons_of_mem _ gf_T9) rfl dT_differentFree_17 ?_
        refine lv_iload hx hb dT_differentFree_20 (lv_at hl 0 rfl) ?_
        refine mp_ild hE.1 hI kA 0 rfl (vp_in_nI (by omega) (by omega)) dT_differentFree_22 ?_
        rw [nI_clamp (by omega), kf i x e1]
        refine lv_istore hx hb dT_differentFree_23 hl (by decide) rfl (fun ls hl => ?_)
        refine lv_iload hx hb dT_differentFree_25 (lv_at hl 0 rfl) ?_
        have skip1 : ¬ (0 ≤ x ∧ x < 64) → ∀ j, j < 64 → (sj b1).testBit j = decide (((0 + j : Nat) : Int) ∈ L.take (i + 1)) := fun hn => by
          rw [htk]
          exact sj_skip _ _ 0 x (fun j hj e => hn (by omega)) h1
        have fl : ∀ y : Int, y ≤ 99 → (L.take i ++ [y]).filter (fun x => decide (x ≤ 99)) = (L.take i).filter (fun x => decide (x ≤ 99)) ++ [y] := fun y hy => by
          rw [List.filter_append]
          congr 1
          simp [hy]
        have skip2 : ¬ (64 ≤ x ∧ x ≤ 99) → ∀ j, j < 64 → (sj b2).testBit j = decide (((64 + j : Nat) : Int) ∈ (L.take (i + 1)).filter (fun x => decide (x ≤ 99))) := fun hn => by
          rw [htk]
          by_cases hy : x ≤ 99
          · rw [fl x hy]
            exact sj_skip _ _ 64 x (fun j hj e => hn (by omega)) h2
          · rw [List.filter_append, show [x].filter (fun x => decide (x ≤ 99)) = [] by simp; omega, List.append_nil]
            exact h2
        have rest : ∀ (ls : Array Slot), ¬ (0 ≤ x ∧ x < 64) → lv_has ls 7 [(6, .int (ci_i x)), (5, .int (nI i)), (3, .long b2), (1, .long b1), (0, .ref t)] →
            W p l e { frames := 1, cells := 0, slots := 0, locals := 30 } s m ([Value.ref t] : List Value).toArray below meth c s.heap [] 0 0 (MQ below (ct_Q D w s.heap.size (fun v w' => w' = w ∧ v = some (.int (nI (nc_n (fun i => decide ((i : Int) ∈ L)) 100))))) ([Value.ref t] : List Value).toArray s 0 0 (mp_A w s.heap.size)) (F0 m 47 ls []) := by
          intro ls hn hl
          refine lv_iload hx hb dT_differentFree_47 (lv_at hl 0 rfl) ?_
          refine lv_bipush (v := ci_i 64) hx hb dT_differentFree_49 (by decide) ?_
          refine lv_icmp_lt (tgt := 71) hx hb dT_differentFree_51 (by decide) (fun hq => ?_) (fun hq => ?_)
          · rw [ci_lt (by omega) (by omega)] at hq
            exact next b1 b2 ls (skip1 hn) (skip2 (by omega)) (lv_sub hl [1, 2, 3, 4] rfl)
          · rw [ci_lt (by omega) (by omega)] at hq
            refine lv_iload hx hb dT_differentFree_54 (lv_at hl 0 rfl) ?_
            refine lv_bipush (v := ci_i 99) hx hb dT_differentFree_56 (by decide) ?_
            refine lv_icmp_gt (tgt := 71) hx hb dT_differentFree_58 (by decide) (fun hq2 => ?_) (fun hq2 => ?_)
            · rw [ci_lt (by omega) (by omega)] at hq2
              exact next b1 b2 ls (skip1 hn) (skip2 (by omega)) (lv_sub hl [1, 2, 3, 4] rfl)
            · rw [ci_lt (by omega) (by omega)] at hq2
              refine lv_lload_n hx hb dT_differentFree_61 rfl (lv_at hl 2 rfl) ?_
              refine lv_lconst (v := 1) hx hb dT_differentFree_62 (by decide) ?_
              refine lv_iload hx hb dT_differentFree_63 (lv_at hl 0 rfl) ?_
              refine lv_bipush (v := ci_i 64) hx hb dT_differentFree_65 (by decide) ?_
              refine lv_isub hx hb dT_differentFree_67 ?_
              obtain ⟨cc, hcc⟩ : ∃ cc : Nat, x = ((64 + cc : Nat) : Int) := ⟨(x - 64).toNat, by omega⟩
              have hcv : ci_i x - ci_i 64 = nI cc := by rw [ci_sub, ← ci_nat]; congr 1; omega
              rw [hcv]
              refine lv_lshl hx hb dT_differentFree_68 rfl ?_
              refine lv_lor hx hb dT_differentFree_69 ?_
              refine lv_lstore_n hx hb dT_differentFree_70 rfl hl (by decide) rfl (fun ls hl => ?_)
              refine next b1 _ ls (skip1 hn) ?_ (lv_sub hl [2, 0, 3, 4] rfl)
              rw [htk, fl x (by omega)]
              exact sj_mark _ _ cc 64 x (by omega) hcc h2
        refine lv_if_lt (tgt := 47) hx hb dT_differentFree_27 (by decide) (fun hq => ?_) (fun hq => ?_)
        · rw [ci_0, ci_lt (by omega) (by omega)] at hq
          exact rest ls (by omega) hl
        · rw [ci_0, ci_lt (by omega) (by omega)] at hq
          refine lv_iload hx hb dT_differentFree_30 (lv_at hl 0 rfl) ?_
          refine lv_bipush (v := ci_i 64) hx hb dT_differentFree_32 (by decide) ?_
          refine lv_icmp_ge (tgt := 47) hx hb dT_differentFree_34 (by decide) (fun hq2 => ?_) (fun hq2 => ?_)
          · rw [ci_le (by omega) (by omega)] at hq2
            exact rest ls (by omega) hl
          · rw [ci_le (by omega) (by omega)] at hq2
            obtain ⟨cc, hcc⟩ : ∃ cc : Nat, x = ((0 + cc : Nat) : Int) := ⟨x.toNat, by omega⟩
            have hcv : ci_i x = nI cc := by rw [← ci_nat]; congr 1; omega
            rw [hcv] at hl
            refine lv_lload_n hx hb dT_differentFree_37 rfl (lv_at hl 3 rfl) ?_
            refine lv_lconst (v := 1) hx hb dT_differentFree_38 (by decide) ?_
            refine lv_iload hx hb dT_differentFree_39 (lv_at hl 0 rfl) ?_
            refine lv_lshl hx hb dT_differentFree_41 rfl ?_
            refine lv_lor hx hb dT_differentFree_42 ?_
            refine lv_lstore_n hx hb dT_differentFree_43 rfl hl (by decide) rfl (fun ls hl => ?_)
            refine lv_goto (tgt := 71) hx hb dT_differentFree_44 (by decide) ?_
            refine next _ b2 ls ?_ (skip2 (by omega)) (lv_sub hl [2, 3, 0, 4] rfl)
            rw [htk]
            exact sj_mark _ _ cc 0 x (by omega) hcc h1
  exact loop L.length 0 0 0 ls (by omega) (fun j hj => by rw [show sj 0 = 0 from rfl, Nat.zero_testBit]; simp) (fun j hj => by rw [show sj 0 = 0 from rfl, Nat.zero_testBit]; simp) hl
end KJ
end
section
/-! Arrays.copyOf of bytes; Text: add, addLeaf -/
theorem dk_0 : decode cJ_copyOf 0 = .ok (.iload_n 1, 1) := by decide +kernel
theorem dk_1 : decode cJ_copyOf 1 = .ok (.aload_n 0, 1) := by decide +kernel
theorem dk_2 : decode cJ_copyOf 2 = .ok (.arraylength, 1) := by decide +kernel
theorem dk_3 : decode cJ_copyOf 3 = .ok (.if_icmp .ne 11, 3) := by decide +kernel
theorem dk_14 : decode cJ_copyOf 14 = .ok (.iload_n 1, 1) := by decide +kernel
theorem dk_15 : decode cJ_copyOf 15 = .ok (.newarray .byte, 2) := by decide +kernel
theorem dk_17 : decode cJ_copyOf 17 = .ok (.astore_n 2, 1) := by decide +kernel
theorem dk_18 : decode cJ_copyOf 18 = .ok (.aload_n 0, 1) := by decide +kernel
theorem dk_19 : decode cJ_copyOf 19 = .ok (.iconst 0, 1) := by decide +kernel
theorem dk_20 : decode cJ_copyOf 20 = .ok (.aload_n 2, 1) := by decide +kernel
theorem dk_21 : decode cJ_copyOf 21 = .ok (.iconst 0, 1) := by decide +kernel
theorem dk_22 : decode cJ_copyOf 22 = .ok (.aload_n 0, 1) := by decide +kernel
theorem dk_23 : decode cJ_copyOf 23 = .ok (.arraylength, 1) := by decide +kernel
theorem dk_24 : decode cJ_copyOf 24 = .ok (.iload_n 1, 1) := by decide +kernel
theorem dk_25 : decode cJ_copyOf 25 = .ok (.invokestatic 304, 3) := by decide +kernel
theorem dk_28 : decode cJ_copyOf 28 = .ok (.invokestatic 150, 3) := by decide +kernel
theorem dk_31 : decode cJ_copyOf 31 = .ok (.aload_n 2, 1) := by decide +kernel
theorem dk_32 : decode cJ_copyOf 32 = .ok (.areturn, 1) := by decide +kernel
def pt_f (g : Nat → Int32) : Prop := ∀ i, fits .byte (.int (g i)) = true
section KX1
variable {l : Launch} {n0 : Nat} {D : va_G} {K : Nat → ClassId} {w : mp_W}
set_option maxRecDepth 100000 in
theorem kJ_copyOf {a cap N : Nat} {g : Nat → Int32} (ha : w a = some (ob_Y K cap g)) (hg : pt_f g) (hc : cap < N) (hN : N ≤ 100000000) : ct_M l n0 D K yJ_copyOf (Cond.code yJ_copyOf cJ_copyOf 3 (some (.array .byte))) 1 40 1 N [.ref a, .int (nI N)] w (fun v w' => ∃ q, v = some (.ref q) ∧ w q = none ∧ mp_off [q] w w' ∧ w' q = some (ob_Y K N (va_cpy g (fun _ => 0) 0 0 cap))) := by
  refine ct_go (own := "java/util/Arrays") (by decide) rfl (Nat.le_of_ble_eq_true rfl) ?_
  intro p e s m below meth c ls hE hI hr hk hn hl
  have hx := hE.1.1.1
  have hb := hE.1.1.2.1
  have hown := hE.1.1.2.2.2.1
  have hl : lv_has ls 3 [(0, .ref a), (1, .int (nI N))] := hl
  refine lv_iload_n hx hb dk_0 rfl (lv_at hl 1 rfl) ?_
  refine lv_aload_n hx hb dk_1 rfl (lv_at hl 0 rfl) ?_
  refine mp_len (v := nI cap) hE.1 hI ha 1 rfl rfl dk_2 ?_
  refine lv_icmp_ne (tgt := 14) hx hb dk_3 (by decide) (fun hq => ?_) (fun hq => ?_)
  · refine lv_iload_n hx hb dk_14 rfl (lv_at hl 1 rfl) ?_
    refine mp_newa (atype := .byte) hE.1 hI (List.mem_cons_of_mem _ ga_byte) rfl 1 rfl (a0 := (N, .inl (fun _ => 0))) (fun _ => rfl) (nI_pos (by omega)) (nI_clamp (by omega)) (by show N * 1 ≤ _; omega) (Nat.le_of_ble_eq_true rfl) (by show 0 + N ≤ N; omega) dk_15 (fun q H hq0 hI => ?_)
    have haq : a ≠ q := fun z => by rw [z, hq0] at ha; cases ha
    have ha1 : mp_up w q (ob_Y K N (fun _ => 0)) a = some (ob_Y K cap g) := by rw [mp_up_ne _ _ haq]; exact ha
    refine lv_astore_n hx hb dk_17 rfl hl (by decide) rfl (fun ls hl => ?_)
    refine lv_aload_n hx hb dk_18 rfl (lv_at hl 1 rfl) ?_
    refine lv_iconst (v := nI 0) hx hb dk_19 (by decide) ?_
    refine lv_aload_n hx hb dk_20 rfl (lv_at hl 0 rfl) ?_
    refine lv_iconst (v := nI 0) hx hb dk_21 (by decide) ?_
    refine lv_aload_n hx hb dk_22 rfl (lv_at hl 1 rfl) ?_
    refine mp_len (v := nI cap) hE.1 hI ha1 1 rfl rfl dk_23 ?_
    refine lv_iload_n hx hb dk_24 rfl (lv_at hl 2 rfl) ?_
    refine va_mmin hx hb (by rw [hE.1.1.2.2.1]; exact hl.1.symm) hown (ct_w hE gm_Ja304) (ct_w hE gt_Jm_min) (ct_w hE gz_Jm) (ct_w hE gc_Jm_min) (Nat.le_of_ble_eq_true rfl) (Nat.le_of_ble_eq_true rfl) (Nat.le_of_ble_eq_true rfl) (by show 0 + N ≤ N; omega) dk_25 ?_
    rw [ci_min (by omega) (by omega), Nat.min_eq_left (by omega)]
    refine mp_copy hE.1 hI hl.1 (List.mem_cons_of_mem _ gm_Ja150) (List.mem_cons_of_mem _ gv_Js_arraycopy) (List.mem_cons_of_mem _ gt_Js_arraycopy) (List.mem_cons_of_mem _ gz_Js) ha1 (mp_up_self ..) 1 1 rfl rfl rfl (nI_pos (by omega)) (nI_pos (by omega)) (nI_pos (by omega)) (by rw [nI_clamp (by omega), nI_clamp (by omega)]; omega) (by rw [nI_clamp (by omega), nI_clamp (by omega)]; omega) (fun i _ => hg _) (Nat.le_of_ble_eq_true rfl) (Nat.le_of_ble_eq_true rfl) dk_28 (fun H locs hI => ?_)
    rw [nI_clamp (by omega), nI_clamp (by omega)] at hI
    refine lv_aload_n hx hb dk_31 rfl (lv_at hl 0 rfl) ?_
    exact ct_aret hE hI hr (Or.inr ⟨_, rfl⟩) hk ⟨q, rfl, hq0, ((mp_off.rf _ _).up (by simp) _).up (by simp) _, mp_up_self ..⟩ (by decide) (by omega) dk_32
  · have := congrArg Int32.toNatClampNeg hq
    rw [nI_clamp (by omega), nI_clamp (by omega)] at this
    omega
/-- what one add and many adds of so many marks do to the array -/
def tx_bc (bc len n : Nat) : Nat := if bc - len < n then 2 * bc + n else bc
def tx_b : Nat → Nat → List Nat → Nat
  | bc, _, [] => bc
  | bc, len, n :: ns => tx_b (tx_bc bc len n) (len + n) ns
def tx_c : Nat → Nat → List Nat → Nat
  | _, _, [] => 0
  | bc, len, n :: ns => (if bc - len < n then 1 else 0) + tx_c (tx_bc bc len n) (len + n) ns
def tx_s : Nat → Nat → List Nat → Nat
  | _, _, [] => 0
  | bc, len, n :: ns => (if bc - len < n then 2 * bc + n else 0) + tx_s (tx_bc bc len n) (len + n) ns
/-- a Text: its bytes at ba, the Walk k4 -/
def pt_Y (K : Nat → ClassId) (w : mp_W) (x ba k4 bc : Nat) (out : List Int) : Prop := ∃ g, w x = some (.inr (1, [.ref ba, .int (nI out.length), .ref k4])) ∧ w ba = some (ob_Y K bc g) ∧ out.length ≤ bc ∧ pt_h g out ∧ pt_f g
theorem nI_b : ∀ n, n < 128 → ((nI n).toInt8.toInt32 = nI n ∧ vp_nar .byte (nI n) = nI n) ∧ fits .byte (.int (nI n)) = true := by decide +kernel
theorem pt_h_app {g : Nat → Int32} {L : List Int} {x : Int} (h : pt_h g L) : pt_h (upd g L.length (ci_i x)) (L ++ [x]) := by
  intro i y hy
  by_cases hi : i < L.length
  · rw [List.getElem?_append_left hi] at hy
    unfold upd
    rw [if_neg (by omega)]
    exact h i y hy
  · have hlt := (List.getElem?_eq_some_iff.mp hy).1
    simp at hlt
    have : i = L.length := by omega
    subst this
    simp at hy
    subst hy
    unfold upd
    rw [if_pos rfl]
set_option maxRecDepth 100000 in
set_option maxHeartbeats 1000000 in
theorem kX_add {x ba k4 bc n mk : Nat} {out : List Int} (hp : pt_Y K w x ba k4 bc out) (hm : mk < 128) (hbc : bc ≤ 10000000) (hn0 : n ≤ 10000000) : ct_M l n0 D K yX_add (Cond.code yX_add cX_add 4 none) 2 80 (tx_c bc out.length [n]) (tx_s bc out.length [n]) [.ref x, .int (nI mk), .int (nI n)] w (fun v w' => v = none ∧ ∃ ba', (ba' = ba ∨ w ba' = none) ∧ mp_off [x, ba'] w w' ∧ pt_Y K w' x ba' k4 (tx_b bc out.length [n]) (out ++ List.replicate n (mk : Int))) := by
  obtain ⟨g, hX, hA, hle, hh, hfit⟩ := hp
  refine ct_go (own := nm_X) (by decide) rfl (Nat.le_of_ble_eq_true rfl) ?_
  intro p e s m below meth c ls hE hI hr hk hn hl
  have hx := hE.1.1.1
  have hb := hE.1.1.2.1
  have hl : lv_has ls 4 [(0, .ref x), (1, .int (nI mk)), (2, .int (nI n))] := hl
  have tail : ∀ (ba' bc' : Nat) (w1 : mp_W) (H : Heap) (locs : List Loc) (ls : Array Slot) (ce sl : Nat), bc' = tx_bc bc out.length n → ce ≤ tx_c bc out.length [n] → sl ≤ tx_s bc out.length [n] → (ba' = ba ∨ w ba' = none) → mp_off [x, ba'] w w1 → pt_Y K w1 x ba' k4 bc' out → n ≤ bc' - out.length → bc' ≤ 100000000 → mp_I D cl_all (mp_A w s.heap.size) s.heap w1 H locs → lv_has ls 4 [(0, .ref x), (1, .int (nI mk)), (2, .int (nI n))] →
      W p l e { frames := 2, cells := tx_c bc out.length [n], slots := tx_s bc out.length [n], locals := 80 } s m ([Value.ref x, .int (nI mk), .int (nI n)] : List Value).toArray below meth c H locs ce sl (MQ below (ct_Q D w s.heap.size (fun v w' => v = none ∧ ∃ ba', (ba' = ba ∨ w ba' = none) ∧ mp_off [x, ba'] w w' ∧ pt_Y K w' x ba' k4 (tx_b bc out.length [n]) (out ++ List.replicate n (mk : Int)))) ([Value.ref x, .int (nI mk), .int (nI n)] : List Value).toArray s (tx_c bc out.length [n]) (tx_s bc out.length [n]) (mp_A w s.heap.size)) (F0 m 34 ls []) := by
    intro ba' bc' w1 H locs ls ce sl hbc' hce hsl hba ho hp hfi hbc2 hI hl
    have loop : ∀ (k i : Nat) (w2 : mp_W) (H : Heap) (locs : List Loc) (ls : Array Slot), i + k = n → mp_off [x, ba'] w w2 → pt_Y K w2 x ba' k4 bc' (out ++ List.replicate i (mk : Int)) → mp_I D cl_all (mp_A w s.heap.size) s.heap w2 H locs → lv_has ls 4 [(3, .int (nI i)), (0, .ref x), (1, .int (nI mk)), (2, .int (nI n))] →
        W p l e { frames := 2, cells := tx_c bc out.length [n], slots := tx_s bc out.length [n], locals := 80 } s m ([Value.ref x, .int (nI mk), .int (nI n)] : List Value).toArray below meth c H locs ce sl (MQ below (ct_Q D w s.heap.size (fun v w' => v = none ∧ ∃ ba', (ba' = ba ∨ w ba' = none) ∧ mp_off [x, ba'] w w' ∧ pt_Y K w' x ba' k4 (tx_b bc out.length [n]) (out ++ List.replicate n (mk : Int)))) ([Value.ref x, .int (nI mk), .int (nI n)] : List Value).toArray s (tx_c bc out.length [n]) (tx_s bc out.length [n]) (mp_A w s.heap.size)) (F0 m 36 ls []) := by
      intro k
      induction k with
      | zero =>
        intro i w2 H locs ls hik ho hp hI hl
        have : i = n := by omega
        subst this
        refine lv_iload_n hx hb dX_add_36 rfl (lv_at hl 0 rfl) ?_
        refine lv_iload_n hx hb dX_add_37 rfl (lv_at hl 3 rfl) ?_
        refine lv_icmp_ge (tgt := 68) hx hb dX_add_38 (by decide) (fun hq => ?_) (fun hq => ?_)
        · refine ct_vret hE hI hr hk ⟨rfl, ba', hba, ho, ?_⟩ hce hsl dX_add_68
          rw [show tx_b bc out.length [i] = bc' from hbc'.symm]
          exact hp
        · exact absurd (nI_le (Nat.le_refl _) (by omega)) hq
      | succ k ih =>
        intro i w2 H locs ls hik ho hp hI hl
        obtain ⟨g, hX, hA, hle, hh, hfit⟩ := hp
        have hlen : (out ++ List.replicate i (mk : Int)).length = out.length + i := by simp
        rw [hlen] at hX hle
        have hne : x ≠ ba' := fun e => by rw [e, hA] at hX; cases hX
        refine lv_iload_n hx hb dX_add_36 rfl (lv_at hl 0 rfl) ?_
        refine lv_iload_n hx hb dX_add_37 rfl (lv_at hl 3 rfl) ?_
        refine lv_icmp_ge (tgt := 68) hx hb dX_add_38 (by decide) (fun hq => ?_) (fun hq => ?_)
        · exact absurd ((nI_leI (by omega) (by omega)).mp hq) (by omega)
        · skip
          refine lv_aload_n hx hb dX_add_41 rfl (lv_at hl 1 rfl) ?_
          refine mp_get hE.1 hI hX rfl gx_X 0 (by decide) (List.mem_cons_of_mem _ gf_X9) rfl dX_add_42 ?_
          refine lv_aload_n hx hb dX_add_45 rfl (lv_at hl 1 rfl) ?_
          refine mp_get hE.1 hI hX rfl gx_X 1 (by decide) (List.mem_cons_of_mem _ gf_X15) rfl dX_add_46 ?_
          refine lv_iload_n hx hb dX_add_49 rfl (lv_at hl 2 rfl) ?_
          refine lv_i2b hx hb dX_add_50 rfl ?_
          rw [(nI_b mk hm).1.1]
          refine mp_bst hE.1 hI hA 1 rfl (vp_in_nI (by omega) (by omega)) dX_add_51 (fun H locs hI => ?_)
          rw [nI_clamp (by omega), (nI_b mk hm).1.2] at hI
          have hX1 : mp_up w2 ba' (ob_Y K bc' (upd g (out.length + i) (nI mk))) x = some (.inr (1, [.ref ba', .int (nI (out.length + i)), .ref k4])) := by rw [mp_up_ne _ _ hne]; exact hX
          refine lv_aload_n hx hb dX_add_52 rfl (lv_at hl 1 rfl) ?_
          refine lv_dup hx hb dX_add_53 rfl ?_
          refine mp_get hE.1 hI hX1 rfl gx_X 1 (by decide) (List.mem_cons_of_mem _ gf_X15) rfl dX_add_54 ?_
          refine lv_iconst (v := 1) hx hb dX_add_57 (by decide) ?_
          refine lv_iadd hx hb dX_add_58 ?_
          rw [nI_1]
          refine mp_put hE.1 hI hX1 rfl gx_X ty_X to_X tn_X 1 (by decide) (List.mem_cons_of_mem _ gf_X15) rfl rfl rfl (Nat.le_of_ble_eq_true rfl) dX_add_59 (fun H locs hI => ?_)
          obtain ⟨w3, hw3⟩ : ∃ z, mp_up (mp_up w2 ba' (ob_Y K bc' (upd g (out.length + i) (nI mk)))) x (.inr (1, [.ref ba', .int (nI (out.length + i + 1)), .ref k4])) = z := ⟨_, rfl⟩
          have hI : mp_I D cl_all (mp_A w s.heap.size) s.heap w3 H locs := by rw [← hw3]; exact hI
          refine lv_iinc (k := 0) (v := nI (i + 1)) hx hb dX_add_62 hl rfl (nI_1 i) (by decide) rfl (fun ls hl => ?_)
          refine lv_goto (tgt := 36) hx hb dX_add_65 (by decide) ?_
          refine ih (i + 1) w3 H locs ls (by omega) (by rw [← hw3]; exact (ho.up (by simp) _).up (by simp) _) ⟨upd g (out.length + i) (nI mk), ?_, ?_, ?_, ?_, ?_⟩ hI hl
          · rw [← hw3, mp_up_self, show (out ++ List.replicate (i + 1) (mk : Int)).length = out.length + i + 1 by simp; omega]
          · rw [← hw3, mp_up_ne _ _ (Ne.symm hne)]
            exact mp_up_self ..
          · simp; omega
          · have := pt_h_app (x := (mk : Int)) hh
            rw [hlen, ci_nat] at this
            rw [List.replicate_succ', ← List.append_assoc]
            exact this
          · intro j
            unfold upd
            split
            · exact (nI_b mk hm).2
            · exact hfit j
    refine lv_iconst (v := nI 0) hx hb dX_add_34 (by decide) ?_
    refine lv_istore_n hx hb dX_add_35 rfl hl (by decide) rfl (fun ls hl => ?_)
    exact loop n 0 w1 H locs ls (by omega) ho (by simpa using hp) hI hl
  have hne : x ≠ ba := fun e => by rw [e, hA] at hX; cases hX
  refine lv_iload_n hx hb dX_add_0 rfl (lv_at hl 2 rfl) ?_
  refine lv_aload_n hx hb dX_add_1 rfl (lv_at hl 0 rfl) ?_
  refine mp_get hE.1 hI hX rfl gx_X 0 (by decide) (List.mem_cons_of_mem _ gf_X9) rfl dX_add_2 ?_
  refine mp_len (v := nI bc) hE.1 hI hA 1 rfl rfl dX_add_5 ?_
  refine lv_aload_n hx hb dX_add_6 rfl (lv_at hl 0 rfl) ?_
  refine mp_get hE.1 hI hX rfl gx_X 1 (by decide) (List.mem_cons_of_mem _ gf_X15) rfl dX_add_7 ?_
  refine lv_isub hx hb dX_add_10 ?_
  rw [pk_sub hle]
  refine lv_icmp_le (tgt := 34) hx hb dX_add_11 (by decide) (fun hq => ?_) (fun hq => ?_)
  · have hq : n ≤ bc - out.length := (nI_leI (by omega) (by omega)).mp hq
    exact tail ba bc w _ _ ls 0 0 (by unfold tx_bc; rw [if_neg (by omega)]) (Nat.zero_le _) (Nat.zero_le _) (Or.inl rfl) (mp_off.rf _ _) ⟨g, hX, hA, hle, hh, hfit⟩ hq (by omega) hI hl
  · have hq : bc - out.length < n := Nat.lt_of_not_le (fun h => hq (nI_le h (by omega)))
    have hc1 : tx_c bc out.length [n] = 1 := by show (if bc - out.length < n then 1 else 0) + 0 = 1; rw [if_pos hq]
    have hs1 : tx_s bc out.length [n] = 2 * bc + n := by show (if bc - out.length < n then 2 * bc + n else 0) + 0 = _; rw [if_pos hq, Nat.add_zero]
    refine lv_aload_n hx hb dX_add_14 rfl (lv_at hl 0 rfl) ?_
    refine lv_aload_n hx hb dX_add_15 rfl (lv_at hl 0 rfl) ?_
    refine mp_get hE.1 hI hX rfl gx_X 0 (by decide) (List.mem_cons_of_mem _ gf_X9) rfl dX_add_16 ?_
    refine lv_iconst (v := nI 2) hx hb dX_add_19 (by decide) ?_
    refine lv_aload_n hx hb dX_add_20 rfl (lv_at hl 0 rfl) ?_
    refine mp_get hE.1 hI hX rfl gx_X 0 (by decide) (List.mem_cons_of_mem _ gf_X9) rfl dX_add_21 ?_
    refine mp_len (v := nI bc) hE.1 hI hA 1 rfl rfl dX_add_24 ?_
    refine lv_imul hx hb dX_add_25 ?_
    refine lv_iload_n hx hb dX_add_26 rfl (lv_at hl 2 rfl) ?_
    refine lv_iadd hx hb dX_add_27 ?_
    rw [pk_mul, show ∀ a b : Nat, nI a + nI b = nI (a + b) from fun a b => (Int32.ofNat_add a b).symm]
    refine ct_St (n := 2) hE hI (kJ_copyOf (N := 2 * bc + n) hA hfit (by omega) (by omega)) gm_X54 gt_J_copyOf gz_Ja gc_J_copyOf (by decide +kernel) ⟨Nat.le_of_ble_eq_true rfl, Nat.le_of_ble_eq_true rfl⟩ rfl hl.1 rfl (Nat.le_of_ble_eq_true rfl) dX_add_28 ⟨by rw [hc1]; exact Nat.le_refl _, by rw [hs1]; show 0 + (2 * bc + n) ≤ 2 * bc + n; omega⟩ (fun v w1 H locs hq hI => ?_)
    obtain ⟨q, rfl, hq0, hoq, hqq⟩ := hq
    show W _ _ _ _ _ _ _ _ _ _ _ _ _ _ _ (F0 _ _ _ [.ref _, .ref _])
    have hxq : x ≠ q := fun e => by rw [e, hq0] at hX; cases hX
    have hX1 : w1 x = some (.inr (1, [.ref ba, .int (nI out.length), .ref k4])) := by rw [hoq x (by simp; exact hxq)]; exact hX
    refine mp_put hE.1 hI hX1 rfl gx_X ty_X to_X tn_X 0 (by decide) (List.mem_cons_of_mem _ gf_X9) rfl rfl rfl (Nat.le_of_ble_eq_true rfl) dX_add_31 (fun H locs hI => ?_)
    obtain ⟨w3, hw3⟩ : ∃ z, mp_up w1 x (.inr (1, [.ref q, .int (nI out.length), .ref k4])) = z := ⟨_, rfl⟩
    have hI : mp_I D cl_all (mp_A w s.heap.size) s.heap w3 H locs := by rw [← hw3]; exact hI
    refine tail q (2 * bc + n) w3 H locs ls _ _ (by unfold tx_bc; rw [if_pos (by omega)]) (by rw [hc1]; exact Nat.le_refl _) (by rw [hs1]; omega) (Or.inr hq0) (by rw [← hw3]; exact (hoq.mono (by simp)).up (by simp) _) ⟨_, by rw [← hw3]; exact mp_up_self .., by rw [← hw3, mp_up_ne _ _ (Ne.symm hxq)]; exact hqq, by omega, ?_, ?_⟩ (by omega) (by omega) hI hl
    · intro i y hy
      have hi := (List.getElem?_eq_some_iff.mp hy).1
      unfold va_cpy
      rw [if_pos (by omega)]
      simpa using hh i y hy
    · intro i
      unfold va_cpy
      split
      · exact hfit _
      · rfl
end KX1
end
section
/-! Text: addLeaf, show -/
theorem tx_b_app (ms : List Nat) : ∀ (ns : List Nat) bc len, tx_b bc len (ns ++ ms) = tx_b (tx_b bc len ns) (len + ns.sum) ms := by
  intro ns
  induction ns with
  | nil => intro bc len; rfl
  | cons n ns ih =>
    intro bc len
    show tx_b (tx_bc bc len n) (len + n) (ns ++ ms) = _
    rw [ih, List.sum_cons, Nat.add_assoc]
    rfl
theorem tx_c_app (ms : List Nat) : ∀ (ns : List Nat) bc len, tx_c bc len (ns ++ ms) = tx_c bc len ns + tx_c (tx_b bc len ns) (len + ns.sum) ms := by
  intro ns
  induction ns with
  | nil => intro bc len; exact (Nat.zero_add _).symm
  | cons n ns ih =>
    intro bc len
    show (if bc - len < n then 1 else 0) + tx_c (tx_bc bc len n) (len + n) (ns ++ ms) = ((if bc - len < n then 1 else 0) + tx_c (tx_bc bc len n) (len + n) ns) + tx_c (tx_b (tx_bc bc len n) (len + n) ns) (len + (n :: ns).sum) ms
    rw [ih, List.sum_cons, ← Nat.add_assoc len]
    omega
theorem tx_s_app (ms : List Nat) : ∀ (ns : List Nat) bc len, tx_s bc len (ns ++ ms) = tx_s bc len ns + tx_s (tx_b bc len ns) (len + ns.sum) ms := by
  intro ns
  induction ns with
  | nil => intro bc len; exact (Nat.zero_add _).symm
  | cons n ns ih =>
    intro bc len
    show (if bc - len < n then 2 * bc + n else 0) + tx_s (tx_bc bc len n) (len + n) (ns ++ ms) = ((if bc - len < n then 2 * bc + n else 0) + tx_s (tx_bc bc len n) (len + n) ns) + tx_s (tx_b (tx_bc bc len n) (len + n) ns) (len + (n :: ns).sum) ms
    rw [ih, List.sum_cons, ← Nat.add_assoc len]
    omega
theorem tx_b_le {T : Nat} : ∀ (ns : List Nat) bc len, len ≤ bc → len + ns.sum ≤ T → tx_b bc len ns ≤ max bc (3 * T) ∧ bc ≤ tx_b bc len ns ∧ len + ns.sum ≤ tx_b bc len ns := by
  intro ns
  induction ns with
  | nil => intro bc len h _; exact ⟨Nat.le_max_left .., Nat.le_refl _, by show len + 0 ≤ bc; omega⟩
  | cons n ns ih =>
    intro bc len h hT
    rw [List.sum_cons] at hT
    rw [List.sum_cons]
    show tx_b (tx_bc bc len n) (len + n) ns ≤ _ ∧ _ ≤ tx_b (tx_bc bc len n) (len + n) ns ∧ _ ≤ tx_b (tx_bc bc len n) (len + n) ns
    have h1 : tx_bc bc len n ≤ max bc (3 * T) ∧ bc ≤ tx_bc bc len n ∧ len + n ≤ tx_bc bc len n := by
      unfold tx_bc
      split <;> omega
    have := ih (tx_bc bc len n) (len + n) h1.2.2 (by omega)
    omega
theorem tx_pay : ∀ (ns : List Nat) bc len, 64 ≤ bc → tx_s bc len ns + 2 * bc ≤ 2 * tx_b bc len ns ∧ 65 * tx_c bc len ns + bc ≤ tx_b bc len ns := by
  intro ns
  induction ns with
  | nil => intro bc len _; exact ⟨by show 0 + 2 * bc ≤ 2 * bc; omega, by show 65 * 0 + bc ≤ bc; omega⟩
  | cons n ns ih =>
    intro bc len h
    show ((if bc - len < n then 2 * bc + n else 0) + tx_s (tx_bc bc len n) (len + n) ns) + 2 * bc ≤ 2 * tx_b (tx_bc bc len n) (len + n) ns ∧ 65 * ((if bc - len < n then 1 else 0) + tx_c (tx_bc bc len n) (len + n) ns) + bc ≤ tx_b (tx_bc bc len n) (len + n) ns
    by_cases hg : bc - len < n
    · rw [if_pos hg, if_pos hg]
      have e : tx_bc bc len n = 2 * bc + n := by unfold tx_bc; rw [if_pos hg]
      have := ih (tx_bc bc len n) (len + n) (by omega)
      omega
    · rw [if_neg hg, if_neg hg]
      have e : tx_bc bc len n = bc := by unfold tx_bc; rw [if_neg hg]
      have := ih (tx_bc bc len n) (len + n) (by omega)
      omega
/-- all cells but those of S are as they were, and none is gone -/
def kd (S : List Nat) (w w' : mp_W) : Prop := ke S w w' ∧ ∀ q, w q ≠ none → w' q ≠ none
theorem kd.rf (S : List Nat) (w : mp_W) : kd S w w := ⟨fun _ _ h _ => h, fun _ h => h⟩
theorem kd.non {S : List Nat} {w w' : mp_W} (h : kd S w w') {q : Nat} (hq : w' q = none) : w q = none := by
  cases e : w q with
  | none => rfl
  | some v => exact absurd hq (h.2 q (by rw [e]; simp))
theorem kd.tr {S : List Nat} {w w1 w2 : mp_W} (h : kd S w w1) (h2 : kd S w1 w2) : kd S w w2 := ⟨fun q x hq hS => h2.1 q x (h.1 q x hq hS) hS, fun q hq => h2.2 q (h.2 q hq)⟩
theorem kd.mono {S S' : List Nat} {w w1 : mp_W} (h : kd S w w1) (hs : ∀ q ∈ S, q ∈ S') : kd S' w w1 := ⟨fun q x hq hS => h.1 q x hq (fun z => hS (hs q z)), h.2⟩
theorem kd.of {S : List Nat} {w w' : mp_W} (h : mp_off S w w') (h2 : ∀ q ∈ S, w' q ≠ none) : kd S w w' := ⟨fun q x hq hS => by rw [h q hS]; exact hq, fun q hq => by
  by_cases e : q ∈ S
  · exact h2 q e
  · rw [h q e]; exact hq⟩
def po_Y (K : Nat → ClassId) (w : mp_W) (x ba k4 bc : Nat) (out : List Int) (w' : mp_W) : Prop := ∃ ba', (ba' = ba ∨ w ba' = none) ∧ kd [x, ba] w w' ∧ pt_Y K w' x ba' k4 bc out
theorem pt_Y.at {K : Nat → ClassId} {w : mp_W} {x ba k4 bc : Nat} {out : List Int} (h : pt_Y K w x ba k4 bc out) : w x ≠ none ∧ w ba ≠ none := by
  obtain ⟨g, h1, h2, -⟩ := h
  rw [h1, h2]
  exact ⟨by simp, by simp⟩
theorem po_Y.of {K : Nat → ClassId} {w w' : mp_W} {x ba ba' k4 bc : Nat} {out : List Int} (h1 : ba' = ba ∨ w ba' = none) (h2 : mp_off [x, ba'] w w') (h3 : pt_Y K w' x ba' k4 bc out) : po_Y K w x ba k4 bc out w' := by
  refine ⟨ba', h1, ⟨fun q v hq hn => ?_, fun q hq => ?_⟩, h3⟩
  · rw [h2 q]
    · exact hq
    · simp at hn ⊢
      refine ⟨hn.1, fun e => ?_⟩
      rcases h1 with h | h
      · exact hn.2 (by rw [e, h])
      · rw [e, h] at hq; cases hq
  · by_cases e : q ∈ [x, ba']
    · simp at e
      rcases e with rfl | rfl
      · exact h3.at.1
      · exact h3.at.2
    · rw [h2 q e]; exact hq
/-- one after the other -/
theorem po_Y.tr {K : Nat → ClassId} {w w1 w2 : mp_W} {x ba ba1 k4 bc2 : Nat} {o2 : List Int} (h1 : ba1 = ba ∨ w ba1 = none) (h2 : kd [x, ba] w w1) (h : po_Y K w1 x ba1 k4 bc2 o2 w2) : po_Y K w x ba k4 bc2 o2 w2 := by
  obtain ⟨ba2, a1, a2, a3⟩ := h
  refine ⟨ba2, ?_, ⟨fun q v hq hn => ?_, fun q hq => a2.2 q (h2.2 q hq)⟩, a3⟩
  · rcases a1 with rfl | a1
    · exact h1
    · exact Or.inr (h2.non a1)
  · refine a2.1 q v (h2.1 q v hq hn) (fun z => ?_)
    simp at z hn
    rcases z with rfl | rfl
    · exact hn.1 rfl
    · rcases h1 with h1 | h1
      · exact hn.2 h1
      · rw [h1] at hq; cases hq
def tx_lf (x : Int) : List Nat := if 99 < x then [(x - 99).toNat] else if 10 ≤ x then [1, 1] else [1]
theorem tx_lf_sum {x : Int} (h0 : 0 ≤ x) : (tm_lf x).length = (tx_lf x).sum := by
  unfold tm_lf tx_lf tm_dg
  split
  · simp
  · split <;> simp
theorem di_1 : ∀ c, c < 100 → ((48 + nI c / 10).toUInt32 % 65536).toInt32 = nI (48 + c / 10) := by decide +kernel
theorem di_2 : ∀ c, c < 100 → ((48 + (nI c - nI c / 10 * 10)).toUInt32 % 65536).toInt32 = nI (48 + c % 10) := by decide +kernel
section KX2
variable {l : Launch} {n0 : Nat} {D : va_G} {K : Nat → ClassId} {w : mp_W}
set_option maxRecDepth 100000 in
set_option maxHeartbeats 1000000 in
theorem kX_addLeaf {t ba k4 bc : Nat} {x : Int} {out : List Int} (hp : pt_Y K w t ba k4 bc out) (h0 : 0 ≤ x) (hxx : x ≤ 1000000) (hbc : bc ≤ 1000000) : ct_M l n0 D K yX_addLeaf (Cond.code yX_addLeaf cX_addLeaf 2 none) 3 120 (tx_c bc out.length (tx_lf x)) (tx_s bc out.length (tx_lf x)) [.ref t, .int (ci_i x)] w (fun v w' => v = none ∧ po_Y K w t ba k4 (tx_b bc out.length (tx_lf x)) (out ++ tm_lf x) w') := by
  obtain ⟨g, hX, -⟩ := id hp
  refine ct_go (own := nm_X) (by decide) rfl (Nat.le_of_ble_eq_true rfl) ?_
  intro p e s m below meth c ls hE hI hr hk hn hl
  have hx := hE.1.1.1
  have hb := hE.1.1.2.1
  have hl : lv_has ls 2 [(0, .ref t), (1, .int (ci_i x))] := hl
  refine lv_iload_n hx hb dX_addLeaf_0 rfl (lv_at hl 1 rfl) ?_
  refine lv_bipush (v := ci_i 99) hx hb dX_addLeaf_1 (by decide) ?_
  refine lv_icmp_le (tgt := 17) hx hb dX_addLeaf_3 (by decide) (fun hq => ?_) (fun hq => ?_)
  · rw [ci_le (by omega) (by omega)] at hq
    obtain ⟨cc, hcc⟩ : ∃ cc : Nat, x = (cc : Int) := ⟨x.toNat, by omega⟩
    have hc : cc < 100 := by omega
    have hcv : ci_i x = nI cc := by rw [hcc, ci_nat]
    rw [hcv] at hl
    have last : ∀ (ba1 bc1 : Nat) (w1 : mp_W) (o1 : List Int) (ls : Array Slot) (H : Heap) (locs : List Loc) (ce sl : Nat), (ba1 = ba ∨ w ba1 = none) → kd [t, ba] w w1 → pt_Y K w1 t ba1 k4 bc1 o1 → bc1 ≤ 10000000 → o1 ++ [48 + x % 10] = out ++ tm_lf x → tx_b bc1 o1.length [1] = tx_b bc out.length (tx_lf x) → ce + tx_c bc1 o1.length [1] = tx_c bc out.length (tx_lf x) → sl + tx_s bc1 o1.length [1] = tx_s bc out.length (tx_lf x) → mp_I D cl_all (mp_A w s.heap.size) s.heap w1 H locs → lv_has ls 2 [(0, .ref t), (1, .int (nI cc))] →
        W p l e { frames := 3, cells := tx_c bc out.length (tx_lf x), slots := tx_s bc out.length (tx_lf x), locals := 120 } s m ([Value.ref t, .int (ci_i x)] : List Value).toArray below meth c H locs ce sl (MQ below (ct_Q D w s.heap.size (fun v w' => v = none ∧ po_Y K w t ba k4 (tx_b bc out.length (tx_lf x)) (out ++ tm_lf x) w')) ([Value.ref t, .int (ci_i x)] : List Value).toArray s (tx_c bc out.length (tx_lf x)) (tx_s bc out.length (tx_lf x)) (mp_A w s.heap.size)) (F0 m 36 ls []) := by
      intro ba1 bc1 w1 o1 ls H locs ce sl hb1 ho hp1 hb2 ho1 eb ec es hI hl
      obtain ⟨g1, hX1, -⟩ := id hp1
      refine lv_aload_n hx hb dX_addLeaf_36 rfl (lv_at hl 0 rfl) ?_
      refine lv_bipush (v := 48) hx hb dX_addLeaf_37 (by decide) ?_
      refine lv_iload_n hx hb dX_addLeaf_39 rfl (lv_at hl 1 rfl) ?_
      refine lv_bipush (v := 10) hx hb dX_addLeaf_40 (by decide) ?_
      refine lv_irem hx hb dX_addLeaf_42 (by decide) ?_
      refine lv_iadd hx hb dX_addLeaf_43 ?_
      refine lv_i2c (v := nI (48 + cc % 10)) hx hb dX_addLeaf_44 (di_2 cc hc) ?_
      refine lv_iconst (v := nI 1) hx hb dX_addLeaf_45 (by decide) ?_
      refine ct_V (n := 2) hE hI (kX_add (n := 1) (mk := 48 + cc % 10) hp1 (by omega) (by omega) (by omega)) hX1 rfl gm_X47 gi_X_add gs_X_X_add gz_X gc_X_add (by decide +kernel) ⟨Nat.le_of_ble_eq_true rfl, Nat.le_of_ble_eq_true rfl⟩ rfl hl.1 rfl (Nat.le_of_ble_eq_true rfl) dX_addLeaf_46 ⟨Nat.le_of_eq ec, Nat.le_of_eq es⟩ (fun v w2 H locs hq hI => ?_)
      obtain ⟨rfl, ba2, a1, a2, a3⟩ := hq
      show W _ _ _ _ _ _ _ _ _ _ _ _ _ _ _ (F0 _ _ _ [])
      refine ct_vret hE hI hr hk ⟨rfl, ?_⟩ (by omega) (by omega) dX_addLeaf_49
      refine po_Y.tr hb1 ho ?_
      rw [← eb, ← ho1]
      refine po_Y.of a1 a2 ?_
      have : ((48 + cc % 10 : Nat) : Int) = 48 + x % 10 := by omega
      rw [this] at a3
      exact a3
    have e99 : ¬ (99 < x) := by omega
    refine lv_iload_n hx hb dX_addLeaf_17 rfl (lv_at hl 1 rfl) ?_
    refine lv_bipush (v := nI 10) hx hb dX_addLeaf_18 (by decide) ?_
    refine lv_icmp_lt (tgt := 36) hx hb dX_addLeaf_20 (by decide) (fun hq2 => ?_) (fun hq2 => ?_)
    · have hq2 : cc < 10 := (nI_ltI (by omega) (by omega)).mp hq2
      have ef : tx_lf x = [1] := by unfold tx_lf; rw [if_neg e99, if_neg (by omega)]
      have eg : tm_lf x = [48 + x % 10] := by unfold tm_lf tm_dg; rw [if_neg e99, if_neg (by omega)]; rfl
      exact last ba bc w out ls _ _ 0 0 (Or.inl rfl) (kd.rf _ _) hp (by omega) (by rw [eg]) (by rw [ef]) (by rw [ef]; omega) (by rw [ef]; omega) hI hl
    · have hq2 : 10 ≤ cc := Nat.le_of_not_lt (fun h => hq2 (nI_lt h (by omega)))
      have ef : tx_lf x = [1, 1] := by unfold tx_lf; rw [if_neg e99, if_pos (by omega)]
      have eg : tm_lf x = [48 + x / 10] ++ [48 + x % 10] := by unfold tm_lf tm_dg; rw [if_neg e99, if_pos (by omega)]
      have t1 : tx_c bc out.length [1, 1] = tx_c bc out.length [1] + tx_c (tx_b bc out.length [1]) (out.length + 1) [1] := tx_c_app [1] [1] bc out.length
      have t2 : tx_s bc out.length [1, 1] = tx_s bc out.length [1] + tx_s (tx_b bc out.length [1]) (out.length + 1) [1] := tx_s_app [1] [1] bc out.length
      refine lv_aload_n hx hb dX_addLeaf_23 rfl (lv_at hl 0 rfl) ?_
      refine lv_bipush (v := 48) hx hb dX_addLeaf_24 (by decide) ?_
      refine lv_iload_n hx hb dX_addLeaf_26 rfl (lv_at hl 1 rfl) ?_
      refine lv_bipush (v := 10) hx hb dX_addLeaf_27 (by decide) ?_
      refine lv_idiv hx hb dX_addLeaf_29 (by decide) ?_
      refine lv_iadd hx hb dX_addLeaf_30 ?_
      refine lv_i2c (v := nI (48 + cc / 10)) hx hb dX_addLeaf_31 (di_1 cc hc) ?_
      refine lv_iconst (v := nI 1) hx hb dX_addLeaf_32 (by decide) ?_
      refine ct_V (n := 2) hE hI (kX_add (n := 1) (mk := 48 + cc / 10) hp (by omega) (by omega) (by omega)) hX rfl gm_X47 gi_X_add gs_X_X_add gz_X gc_X_add (by decide +kernel) ⟨Nat.le_of_ble_eq_true rfl, Nat.le_of_ble_eq_true rfl⟩ rfl hl.1 rfl (Nat.le_of_ble_eq_true rfl) dX_addLeaf_33 ⟨by show 0 + _ ≤ tx_c bc out.length (tx_lf x); rw [ef, t1]; omega, by show 0 + _ ≤ tx_s bc out.length (tx_lf x); rw [ef, t2]; omega⟩ (fun v w2 H locs hq hI => ?_)
      obtain ⟨rfl, ba2, a1, a2, a3⟩ := hq
      show W _ _ _ _ _ _ _ _ _ _ _ _ _ _ _ (F0 _ _ _ [])
      have hl1 : (out ++ List.replicate 1 ((48 + cc / 10 : Nat) : Int)).length = out.length + 1 := by simp
      obtain ⟨ba3, c1, c2, c3⟩ := po_Y.of a1 a2 a3
      have hbb : tx_b bc out.length [1] ≤ 10000000 := by
        show tx_bc bc out.length 1 ≤ _
        unfold tx_bc
        split <;> omega
      refine last ba3 _ w2 _ ls H locs _ _ c1 c2 c3 hbb ?_ ?_ ?_ ?_ hI hl
      · rw [eg, List.append_assoc]
        have : ((48 + cc / 10 : Nat) : Int) = 48 + x / 10 := by omega
        rw [this]
        rfl
      · rw [hl1, ef]; exact (tx_b_app [1] [1] bc out.length).symm
      · rw [hl1, ef, t1]; omega
      · rw [hl1, ef, t2]; omega
  · rw [ci_le (by omega) (by omega)] at hq
    have ef : tx_lf x = [(x - 99).toNat] := by unfold tx_lf; rw [if_pos (by omega)]
    have eg : tm_lf x = List.replicate (x - 99).toNat 39 := by unfold tm_lf; rw [if_pos (by omega)]
    refine lv_aload_n hx hb dX_addLeaf_6 rfl (lv_at hl 0 rfl) ?_
    refine lv_bipush (v := nI 39) hx hb dX_addLeaf_7 (by decide) ?_
    refine lv_iload_n hx hb dX_addLeaf_9 rfl (lv_at hl 1 rfl) ?_
    refine lv_bipush (v := ci_i 99) hx hb dX_addLeaf_10 (by decide) ?_
    refine lv_isub hx hb dX_addLeaf_12 ?_
    have hcv : ci_i x - ci_i 99 = nI (x - 99).toNat := by rw [ci_sub, ← ci_nat]; congr 1; omega
    rw [hcv]
    refine ct_V (n := 2) hE hI (kX_add (n := (x - 99).toNat) (mk := 39) hp (by omega) (by omega) (by omega)) hX rfl gm_X47 gi_X_add gs_X_X_add gz_X gc_X_add (by decide +kernel) ⟨Nat.le_of_ble_eq_true rfl, Nat.le_of_ble_eq_true rfl⟩ rfl hl.1 rfl (Nat.le_of_ble_eq_true rfl) dX_addLeaf_13 ⟨by show 0 + _ ≤ tx_c bc out.length (tx_lf x); rw [ef]; omega, by show 0 + _ ≤ tx_s bc out.length (tx_lf x); rw [ef]; omega⟩ (fun v w2 H locs hq hI => ?_)
    obtain ⟨rfl, ba2, a1, a2, a3⟩ := hq
    show W _ _ _ _ _ _ _ _ _ _ _ _ _ _ _ (F0 _ _ _ [])
    refine ct_vret hE hI hr hk ⟨rfl, ?_⟩ (by rw [ef]; omega) (by rw [ef]; omega) dX_addLeaf_16
    rw [ef, eg]
    exact po_Y.of a1 a2 a3
end KX2
end
section
/-! Text: show -/
/-- the counts that wait stand in their order: none passes the count -/
def pt_sr (u : List Nat × Nat) : Prop := List.Pairwise (fun a b => b ≤ a) (u.2 :: u.1)
theorem pt_sr.wk {u : List Nat × Nat} (h : pt_sr u) (x : Int) : pt_sr (tm_wk 1 0 u x) := by
  obtain ⟨s, c⟩ := u
  have h1 := List.pairwise_cons.mp h
  unfold tm_wk
  split
  · by_cases hh : s.length < 150
    · show List.Pairwise _ ((c + 1) :: (if s.length < 150 then (c + 1) :: s else s))
      rw [if_pos hh]
      refine List.pairwise_cons.mpr ⟨fun y hy => ?_, List.pairwise_cons.mpr ⟨fun y hy => ?_, h1.2⟩⟩
      · rcases List.mem_cons.mp hy with e | e
        · omega
        · have := h1.1 y e; omega
      · have := h1.1 y hy; omega
    · show List.Pairwise _ ((c + 1) :: (if s.length < 150 then (c + 1) :: s else s))
      rw [if_neg hh]
      exact List.pairwise_cons.mpr ⟨fun y hy => by have := h1.1 y hy; omega, h1.2⟩
  · split
    · exact h
    · cases s with
      | nil => exact List.pairwise_cons.mpr ⟨fun y hy => (by cases hy), List.Pairwise.nil⟩
      | cons a s => exact h1.2
theorem pt_sr.leaf {u : List Nat × Nat} (h : pt_sr u) {x : Int} (hx : 0 ≤ x) : (tm_wk 1 0 u x).2 ≤ u.2 := by
  rw [tm_wk_l _ _ _ hx]
  obtain ⟨s, c⟩ := u
  cases s with
  | nil => exact Nat.zero_le _
  | cons a s => exact (List.pairwise_cons.mp h).1 a (List.mem_cons_self ..)
theorem pt_sr0 : pt_sr ([], 0) := List.pairwise_cons.mpr ⟨fun y hy => (by cases hy), List.Pairwise.nil⟩
/-- the adds of a row -/
def tx_a1 (x : Int) (k : Nat) (last : Bool) : List Nat := if x = -1 then [1] else if x = -2 then [1] else tx_lf x ++ ([k] ++ [if last = true then 0 else 1])
def tx_ad : List Int → List Nat × Nat → List Nat
  | [], _ => []
  | x :: L, s => tx_a1 x (s.2 - (tm_wk 1 0 s x).2) L.isEmpty ++ tx_ad L (tm_wk 1 0 s x)
theorem tx_a1_sum {x : Int} (h : -2 ≤ x) (k : Nat) (last : Bool) : (tm_s1 x k last).length = (tx_a1 x k last).sum := by
  unfold tm_s1 tx_a1
  split
  · rfl
  · split
    · rfl
    · rw [List.length_append, List.sum_append, tx_lf_sum (by omega), List.length_append, List.length_replicate]
      cases last <;> simp
theorem tx_ad_sum : ∀ (L : List Int) s, (∀ x ∈ L, -2 ≤ x) → (tm_sh L s).length = (tx_ad L s).sum := by
  intro L
  induction L with
  | nil => intro s _; rfl
  | cons x L ih =>
    intro s h
    rw [tm_sh_cons, List.length_append, tx_a1_sum (h x (List.mem_cons_self ..)), ih _ (fun y hy => h y (List.mem_cons_of_mem _ hy))]
    exact List.sum_append.symm
theorem pt_Y.kp {K : Nat → ClassId} {w w' : mp_W} {x ba k4 bc : Nat} {out : List Int} {S : List Nat} (h : pt_Y K w x ba k4 bc out) (ho : ke S w w') (h1 : x ∉ S) (h2 : ba ∉ S) : pt_Y K w' x ba k4 bc out := by
  obtain ⟨g, a1, a2, a3⟩ := h
  exact ⟨g, ho _ _ a1 h1, ho _ _ a2 h2, a3⟩
theorem po_Y.on {K : Nat → ClassId} {w w1 w2 : mp_W} {x ba ba1 k4 bc2 : Nat} {o2 : List Int} {S : List Nat} (h1 : ba1 = ba ∨ w ba1 = none) (h2 : kd S w w1) (hx : x ∈ S) (hba : ba ∈ S) (h : po_Y K w1 x ba1 k4 bc2 o2 w2) : ∃ ba2, (ba2 = ba ∨ w ba2 = none) ∧ kd S w w2 ∧ pt_Y K w2 x ba2 k4 bc2 o2 := by
  obtain ⟨ba2, a1, a2, a3⟩ := h
  refine ⟨ba2, ?_, ⟨fun q v hq hn => ?_, fun q hq => a2.2 q (h2.2 q hq)⟩, a3⟩
  · rcases a1 with rfl | a1
    · exact h1
    · exact Or.inr (h2.non a1)
  · refine a2.1 q v (h2.1 q v hq hn) (fun z => ?_)
    simp at z
    rcases z with rfl | rfl
    · exact hn hx
    · rcases h1 with h1 | h1
      · exact hn (by rw [h1]; exact hba)
      · rw [h1] at hq; cases hq
section KX3
variable {l : Launch} {n0 : Nat} {D : va_G} {K : Nat → ClassId} {w : mp_W}
abbrev po_sh (K : Nat → ClassId) (w : mp_W) (x ba k4 kr bc : Nat) (L : List Int) : Option Value → mp_W → Prop := fun v w' => v = some (.int (nI (tm_sh L ([], 0)).length)) ∧ ∃ ba' u, (ba' = ba ∨ w ba' = none) ∧ kd [x, ba, k4, kr] w w' ∧ pt_Y K w' x ba' k4 (tx_b bc 0 (tx_ad L ([], 0))) (tm_sh L ([], 0)) ∧ pt_W K w' k4 kr 1 0 u
set_option maxRecDepth 100000 in
set_option maxHeartbeats 4000000 in
theorem kX_show {x ba k4 kr bc t ar cap : Nat} {u0 : List Nat × Nat} {L out : List Int} (hp : pt_Y K w x ba k4 bc out) (hw : pt_W K w k4 kr 1 0 u0) (ht : pt_R K w t ar cap L) (hn1 : t ∉ [x, ba, k4, kr]) (hn2 : ar ∉ [x, ba, k4, kr]) (hn3 : k4 ∉ [x, ba]) (hn4 : kr ∉ [x, ba]) (hBT : tx_b bc 0 (tx_ad L ([], 0)) ≤ 1000000) :
    ct_M l n0 D K yX_show (Cond.code yX_show cX_show 5 (some .int)) 4 160 (tx_c bc 0 (tx_ad L ([], 0))) (tx_s bc 0 (tx_ad L ([], 0))) [.ref x, .ref t] w (po_sh K w x ba k4 kr bc L) := by
  have hLL : L.length ≤ 2000 := Nat.le_trans ht.2.1 ht.2.2.1
  obtain ⟨CT, hCT⟩ : ∃ z, tx_c bc 0 (tx_ad L ([], 0)) = z := ⟨_, rfl⟩
  obtain ⟨ST, hST⟩ : ∃ z, tx_s bc 0 (tx_ad L ([], 0)) = z := ⟨_, rfl⟩
  obtain ⟨g, hX, hA, hle, hh, hfit⟩ := id hp
  have hxk : x ∉ [k4, kr] := by simp at hn3 hn4 ⊢; exact ⟨fun e => hn3.1 e.symm, fun e => hn4.1 e.symm⟩
  rw [hCT, hST]
  refine ct_go (own := nm_X) (by decide) rfl (Nat.le_of_ble_eq_true rfl) ?_
  intro p e s m below meth c ls hE hI hr hk hn hl
  have hx := hE.1.1.1
  have hb := hE.1.1.2.1
  have hl : lv_has ls 5 [(0, .ref x), (1, .ref t)] := hl
  refine lv_aload_n hx hb dX_show_0 rfl (lv_at hl 0 rfl) ?_
  refine lv_iconst (v := nI 0) hx hb dX_show_1 (by decide) ?_
  refine mp_put hE.1 hI hX rfl gx_X ty_X to_X tn_X 1 (by decide) (List.mem_cons_of_mem _ gf_X15) rfl rfl rfl (Nat.le_of_ble_eq_true rfl) dX_show_2 (fun H locs hI => ?_)
  obtain ⟨w1, hw1⟩ : ∃ z, mp_up w x (.inr (1, [.ref ba, .int (nI 0), .ref k4])) = z := ⟨_, rfl⟩
  have hI : mp_I D cl_all (mp_A w s.heap.size) s.heap w1 H locs := by rw [← hw1]; exact hI
  have ho1 : mp_off [x] w w1 := by rw [← hw1]; exact (mp_off.rf _ _).up (by simp) _
  have hX1 : w1 x = some (.inr (1, [.ref ba, .int (nI 0), .ref k4])) := by rw [← hw1]; exact mp_up_self ..
  have hbx : ba ∉ [x] := by simp; intro e; rw [e, hX] at hA; cases hA
  have hp1 : pt_Y K w1 x ba k4 bc [] := ⟨g, hX1, by rw [ho1 _ hbx]; exact hA, Nat.zero_le _, fun i y hy => by simp at hy, hfit⟩
  have hw1' := hw.off ho1 (by simp at hn3 ⊢; exact hn3.1) (by simp at hn4 ⊢; exact hn4.1)
  obtain ⟨gw, kW1, -⟩ := id hw1'
  refine lv_aload_n hx hb dX_show_5 rfl (lv_at hl 0 rfl) ?_
  refine mp_get hE.1 hI hX1 rfl gx_X 2 (by decide) (List.mem_cons_of_mem _ gf_X24) rfl dX_show_6 ?_
  refine ct_V (n := 0) hE hI (kW_start hw1') kW1 rfl gm_X28 gi_W_start gs_W_W_start gz_W gc_W_start (by decide +kernel) ⟨Nat.le_of_ble_eq_true rfl, Nat.le_of_ble_eq_true rfl⟩ rfl hl.1 rfl (Nat.le_of_ble_eq_true rfl) dX_show_9 ⟨Nat.zero_le _, Nat.zero_le _⟩ (fun v w2 H locs hq hI => ?_)
  obtain ⟨rfl, ho2, hw2⟩ := hq
  show W _ _ _ _ _ _ _ _ _ _ _ _ _ _ _ (F0 _ _ _ [])
  have k1 : kd [x, ba, k4, kr] w w1 := (kd.of ho1 (by intro q hq; simp at hq; rw [hq, hX1]; simp)).mono (by simp)
  have nW : ∀ {z : mp_W} {v}, pt_W K z k4 kr 1 0 v → ∀ q ∈ [k4, kr], z q ≠ none := fun hz q hq => by
    obtain ⟨_, a1, a2, _⟩ := hz
    simp at hq
    rcases hq with rfl | rfl
    · rw [a1]; simp
    · rw [a2]; simp
  have k2 : kd [x, ba, k4, kr] w w2 := k1.tr ((kd.of ho2 (nW hw2)).mono (by simp))
  have nba : ∀ b2, (b2 = ba ∨ w b2 = none) → b2 ∉ [k4, kr] := by
    intro b2 h
    rcases h with rfl | h
    · simp at hn3 hn4 ⊢
      exact ⟨fun e => hn3.2 e.symm, fun e => hn4.2 e.symm⟩
    · obtain ⟨_, a1, a2, _⟩ := hw
      simp
      exact ⟨fun e => (by rw [e, a1] at h; cases h), fun e => (by rw [e, a2] at h; cases h)⟩
  have hp2 := hp1.kp (kd.of ho2 (nW hw2)).1 hxk (nba ba (Or.inl rfl))
  refine lv_iconst (v := nI 0) hx hb dX_show_12 (by decide) ?_
  refine lv_istore_n hx hb dX_show_13 rfl hl (by decide) rfl (fun ls hl => ?_)
  have loop : ∀ (k i : Nat) (w2 : mp_W) (H : Heap) (locs : List Loc) (ls : Array Slot) (b2 c2 ce sl : Nat) (o2 : List Int) (u : List Nat × Nat), i + k = L.length → (b2 = ba ∨ w b2 = none) → kd [x, ba, k4, kr] w w2 → pt_Y K w2 x b2 k4 c2 o2 → pt_W K w2 k4 kr 1 0 u → pt_ub u i → pt_sr u → o2 ++ tm_sh (L.drop i) u = tm_sh L ([], 0) → tx_b c2 o2.length (tx_ad (L.drop i) u) = tx_b bc 0 (tx_ad L ([], 0)) → ce + tx_c c2 o2.length (tx_ad (L.drop i) u) = CT → sl + tx_s c2 o2.length (tx_ad (L.drop i) u) = ST → mp_I D cl_all (mp_A w s.heap.size) s.heap w2 H locs → lv_has ls 5 [(2, .int (nI i)), (0, .ref x), (1, .ref t)] →
      W p l e { frames := 4, cells := CT, slots := ST, locals := 160 } s m ([Value.ref x, .ref t] : List Value).toArray below meth c H locs ce sl (MQ below (ct_Q D w s.heap.size (po_sh K w x ba k4 kr bc L)) ([Value.ref x, .ref t] : List Value).toArray s CT ST (mp_A w s.heap.size)) (F0 m 14 ls []) := by
    intro k
    induction k with
    | zero =>
      intro i w2 H locs ls b2 c2 ce sl o2 u hik hb2 hkd hp2 hw2 hub hsr eo eb ec es hI hl
      have hi : i = L.length := by omega
      subst hi
      rw [List.drop_length] at eo eb ec es
      have eo : o2 = tm_sh L ([], 0) := by rw [← eo]; exact (List.append_nil _).symm
      obtain ⟨g2, hX2, -⟩ := id hp2
      have hR := ht
      obtain ⟨g3, kT, kA, kf, kc, kc2, kx⟩ := ht.out
      have kT2 := hkd.1 _ _ kT hn1
      refine lv_iload_n hx hb dX_show_14 rfl (lv_at hl 0 rfl) ?_
      refine lv_aload_n hx hb dX_show_15 rfl (lv_at hl 2 rfl) ?_
      refine mp_getN hE.1 hI kT2 rfl gx_T 1 (by decide) (ct_nw hE (q := ("BindingBench$Text", 31, "BindingBench$Term", "size", "I")) (by decide +kernel)) rfl dX_show_16 ?_
      refine lv_icmp_ge (tgt := 125) hx hb dX_show_19 (by decide) (fun hq => ?_) (fun hq => ?_)
      · refine lv_aload_n hx hb dX_show_125 rfl (lv_at hl 1 rfl) ?_
        refine mp_get hE.1 hI hX2 rfl gx_X 1 (by decide) (List.mem_cons_of_mem _ gf_X15) rfl dX_show_126 ?_
        refine ct_iret hE hI hr hk ⟨by rw [eo], b2, u, hb2, hkd, ?_, hw2⟩ (by omega) (by omega) dX_show_129
        rw [← eb, ← eo]
        exact hp2
      · exact absurd (nI_le (Nat.le_refl _) (by omega)) hq
    | succ k ih =>
      intro i w2 H locs ls b2 c2 ce sl o2 u hik hb2 hkd hp2 hw2 hub hsr eo eb ec es hI hl
      have hi : i < L.length := by omega
      obtain ⟨y, e1, m1⟩ := pt_at hi
      rw [pt_drop e1] at eo eb ec es
      rw [tm_sh_cons] at eo
      rw [show tx_ad (y :: L.drop (i + 1)) u = tx_a1 y (u.2 - (tm_wk 1 0 u y).2) (L.drop (i + 1)).isEmpty ++ tx_ad (L.drop (i + 1)) (tm_wk 1 0 u y) from rfl] at eb ec es
      obtain ⟨g3, kT, kA, kf, kc, kc2, kx⟩ := ht.out
      have kT2 := hkd.1 _ _ kT hn1
      have kA2 := hkd.1 _ _ kA hn2
      have hyy := kx y m1
      have hu2 := hub.1
      obtain ⟨g2, hX2, -⟩ := id hp2
      obtain ⟨gw2, kW2, kW3, -⟩ := id hw2
      refine lv_iload_n hx hb dX_show_14 rfl (lv_at hl 0 rfl) ?_
      refine lv_aload_n hx hb dX_show_15 rfl (lv_at hl 2 rfl) ?_
      refine mp_getN hE.1 hI kT2 rfl gx_T 1 (by decide) (ct_nw hE (q := ("BindingBench$Text", 31, "BindingBench$Term", "size", "I")) (by decide +kernel)) rfl dX_show_16 ?_
      refine lv_icmp_ge (tgt := 125) hx hb dX_show_19 (by decide) (fun hq => ?_) (fun hq => ?_)
      · exact absurd ((nI_leI (by omega) (by omega)).mp hq) (by omega)
      · skip
        refine lv_aload_n hx hb dX_show_22 rfl (lv_at hl 2 rfl) ?_
        refine mp_getN hE.1 hI kT2 rfl gx_T 0 (by decide) (ct_nw hE (q := ("BindingBench$Text", 36, "BindingBench$Term", "cells", "[I")) (by decide +kernel)) rfl dX_show_23 ?_
        refine lv_iload_n hx hb dX_show_26 rfl (lv_at hl 0 rfl) ?_
        refine mp_ild hE.1 hI kA2 0 rfl (vp_in_nI (by omega) (by omega)) dX_show_27 ?_
        rw [nI_clamp (by omega), kf i y e1]
        refine lv_istore_n hx hb dX_show_28 rfl hl (by decide) rfl (fun ls hl => ?_)
        refine lv_aload_n hx hb dX_show_29 rfl (lv_at hl 2 rfl) ?_
        refine mp_get hE.1 hI hX2 rfl gx_X 2 (by decide) (List.mem_cons_of_mem _ gf_X24) rfl dX_show_30 ?_
        refine mp_getN hE.1 hI kW2 rfl gx_W 4 (by decide) (ct_nw hE (q := ("BindingBench$Text", 40, "BindingBench$Walk", "count", "I")) (by decide +kernel)) rfl dX_show_33 ?_
        refine lv_istore hx hb dX_show_36 hl (by decide) rfl (fun ls hl => ?_)
        refine lv_aload_n hx hb dX_show_38 rfl (lv_at hl 3 rfl) ?_
        refine mp_get hE.1 hI hX2 rfl gx_X 2 (by decide) (List.mem_cons_of_mem _ gf_X24) rfl dX_show_39 ?_
        refine lv_iload_n hx hb dX_show_42 rfl (lv_at hl 1 rfl) ?_
        refine ct_V (n := 1) hE hI (kW_pass (x := y) hw2 hyy (by omega)) kW2 rfl gm_X43 gi_W_pass gs_W_W_pass gz_W gc_W_pass (by decide +kernel) ⟨Nat.le_of_ble_eq_true rfl, Nat.le_of_ble_eq_true rfl⟩ rfl hl.1 rfl (Nat.le_of_ble_eq_true rfl) dX_show_43 ⟨by show ce + 0 ≤ CT; omega, by show sl + 0 ≤ ST; omega⟩ (fun v w3 H locs hq hI => ?_)
        obtain ⟨rfl, ho3, hw3⟩ := hq
        show W _ _ _ _ _ _ _ _ _ _ _ _ _ _ _ (F0 _ _ _ [])
        have k3 : kd [x, ba, k4, kr] w w3 := hkd.tr ((kd.of ho3 (nW hw3)).mono (by simp))
        have hp3 := hp2.kp (kd.of ho3 (nW hw3)).1 hxk (nba b2 hb2)
        obtain ⟨g4, hX3, -⟩ := id hp3
        have hub3 := hub.wk (fa := 1) (ff := 0) (by omega) (by omega) y
        have hsr3 := hsr.wk y
        obtain ⟨u3, hu3⟩ : ∃ z, tm_wk 1 0 u y = z := ⟨_, rfl⟩
        have hlf := fun h : 0 ≤ y => hsr.leaf h
        rw [hu3] at hw3 eo eb ec es hub3 hsr3 hlf
        obtain ⟨last, hlast⟩ : ∃ z, (L.drop (i + 1)).isEmpty = z := ⟨_, rfl⟩
        rw [hlast] at eo eb ec es
        rw [tx_b_app] at eb
        rw [tx_c_app] at ec
        rw [tx_s_app] at es
        have nX : ∀ b9, (b9 = ba ∨ w b9 = none) → k4 ∉ [x, b9] ∧ kr ∉ [x, b9] := fun b9 h => by
          have := nba b9 h
          simp at this hn3 hn4 ⊢
          exact ⟨⟨hn3.1, fun e => this.1 e.symm⟩, hn4.1, fun e => this.2 e.symm⟩
        have next : ∀ (w9 : mp_W) (H : Heap) (locs : List Loc) (ls : Array Slot) (ce9 sl9 : Nat), ce9 = ce + tx_c c2 o2.length (tx_a1 y (u.2 - u3.2) last) → sl9 = sl + tx_s c2 o2.length (tx_a1 y (u.2 - u3.2) last) → po_Y K w3 x b2 k4 (tx_b c2 o2.length (tx_a1 y (u.2 - u3.2) last)) (o2 ++ tm_s1 y (u.2 - u3.2) last) w9 → mp_I D cl_all (mp_A w s.heap.size) s.heap w9 H locs → lv_has ls 5 [(2, .int (nI i)), (0, .ref x), (1, .ref t)] →
            W p l e { frames := 4, cells := CT, slots := ST, locals := 160 } s m ([Value.ref x, .ref t] : List Value).toArray below meth c H locs ce9 sl9 (MQ below (ct_Q D w s.heap.size (po_sh K w x ba k4 kr bc L)) ([Value.ref x, .ref t] : List Value).toArray s CT ST (mp_A w s.heap.size)) (F0 m 119 ls []) := by
          intro w9 H locs ls ce9 sl9 hc9 hs9 hq hI hl
          obtain ⟨b9, r1, r2, r3⟩ := po_Y.on hb2 k3 (by simp) (by simp) hq
          obtain ⟨-, -, q2, -⟩ := hq
          have hw9 := hw3.kp q2.1 (nX b2 hb2).1 (nX b2 hb2).2
          refine lv_iinc (k := 0) (v := nI (i + 1)) hx hb dX_show_119 hl rfl (nI_1 i) (by decide) rfl (fun ls hl => ?_)
          refine lv_goto (tgt := 14) hx hb dX_show_122 (by decide) ?_
          have hlen : (o2 ++ tm_s1 y (u.2 - u3.2) last).length = o2.length + (tx_a1 y (u.2 - u3.2) last).sum := by rw [List.length_append, tx_a1_sum hyy.1]
          refine ih (i + 1) w9 H locs ls b9 _ _ _ _ u3 (by omega) r1 r2 r3 hw9 hub3 hsr3 (by rw [List.append_assoc]; exact eo) (by rw [hlen]; exact eb) (by rw [hlen, hc9, Nat.add_assoc]; exact ec) (by rw [hlen, hs9, Nat.add_assoc]; exact es) hI hl
        have hbT : c2 ≤ 1000000 := by
          have h1 := (tx_b_le (T := o2.length + (tx_a1 y (u.2 - u3.2) last).sum) (tx_a1 y (u.2 - u3.2) last) c2 o2.length (by obtain ⟨_, _, _, h, _⟩ := hp3; exact h) (Nat.le_refl _)).2
          have h2 := (tx_b_le (T := (o2.length + (tx_a1 y (u.2 - u3.2) last).sum) + (tx_ad (L.drop (i + 1)) u3).sum) (tx_ad (L.drop (i + 1)) u3) (tx_b c2 o2.length (tx_a1 y (u.2 - u3.2) last)) (o2.length + (tx_a1 y (u.2 - u3.2) last).sum) h1.2 (Nat.le_refl _)).2.1
          rw [eb] at h2
          omega
        have hl := lv_sub hl [1, 0, 2, 3, 4] rfl
        refine lv_iload_n hx hb dX_show_46 rfl (lv_at hl 0 rfl) ?_
        refine lv_iconst (v := ci_i (-1)) hx hb dX_show_47 (by decide) ?_
        refine lv_icmp_ne (tgt := 61) hx hb dX_show_48 (by decide) (fun hq => ?_) (fun hq => ?_)
        · have hq : ¬ y = -1 := fun e => hq (by rw [e])
          refine lv_iload_n hx hb dX_show_61 rfl (lv_at hl 0 rfl) ?_
          refine lv_bipush (v := ci_i (-2)) hx hb dX_show_62 (by decide) ?_
          refine lv_icmp_ne (tgt := 77) hx hb dX_show_64 (by decide) (fun hq2 => ?_) (fun hq2 => ?_)
          · have hq2 : ¬ y = -2 := fun e => hq2 (by rw [e])
            have h0 : 0 ≤ y := by omega
            have hlf := hlf h0
            have ea : tx_a1 y (u.2 - u3.2) last = tx_lf y ++ ([u.2 - u3.2] ++ [if last = true then 0 else 1]) := by unfold tx_a1; rw [if_neg hq, if_neg hq2]
            have eg : tm_s1 y (u.2 - u3.2) last = tm_lf y ++ (List.replicate (u.2 - u3.2) 41 ++ if last = true then [] else [32]) := by unfold tm_s1; rw [if_neg hq, if_neg hq2]
            have ll1 : (o2 ++ tm_lf y).length = o2.length + (tx_lf y).sum := by rw [List.length_append, tx_lf_sum h0]
            obtain ⟨N3, hN3⟩ : ∃ z : Nat, (if last = true then 0 else 1) = z := ⟨_, rfl⟩
            have hN3' : N3 ≤ 1 := by rw [← hN3]; split <;> omega
            rw [hN3] at ea
            have tc : tx_c c2 o2.length (tx_a1 y (u.2 - u3.2) last) = tx_c c2 o2.length (tx_lf y) + (tx_c (tx_b c2 o2.length (tx_lf y)) (o2.length + (tx_lf y).sum) [u.2 - u3.2] + tx_c (tx_b (tx_b c2 o2.length (tx_lf y)) (o2.length + (tx_lf y).sum) [u.2 - u3.2]) (o2.length + (tx_lf y).sum + (u.2 - u3.2)) [N3]) := by rw [ea, tx_c_app, tx_c_app]; rfl
            have ts : tx_s c2 o2.length (tx_a1 y (u.2 - u3.2) last) = tx_s c2 o2.length (tx_lf y) + (tx_s (tx_b c2 o2.length (tx_lf y)) (o2.length + (tx_lf y).sum) [u.2 - u3.2] + tx_s (tx_b (tx_b c2 o2.length (tx_lf y)) (o2.length + (tx_lf y).sum) [u.2 - u3.2]) (o2.length + (tx_lf y).sum + (u.2 - u3.2)) [N3]) := by rw [ea, tx_s_app, tx_s_app]; rfl
            have tb : tx_b c2 o2.length (tx_a1 y (u.2 - u3.2) last) = tx_b (tx_b (tx_b c2 o2.length (tx_lf y)) (o2.length + (tx_lf y).sum) [u.2 - u3.2]) (o2.length + (tx_lf y).sum + (u.2 - u3.2)) [N3] := by rw [ea, tx_b_app, tx_b_app]; rfl
            have ol : o2.length ≤ c2 := by obtain ⟨_, _, _, h, _⟩ := hp3; exact h
            have sl1 : (tx_lf y).sum ≤ 1000000 := by
              unfold tx_lf
              split
              · show (y - 99).toNat + 0 ≤ _; omega
              · split <;> decide
            have bb1 := tx_b_le (T := o2.length + (tx_lf y).sum) (tx_lf y) c2 o2.length ol (Nat.le_refl _)
            have bb2 := tx_b_le (T := o2.length + (tx_lf y).sum + (u.2 - u3.2)) [u.2 - u3.2] (tx_b c2 o2.length (tx_lf y)) (o2.length + (tx_lf y).sum) bb1.2.2 (by show _ + (u.2 - u3.2 + 0) ≤ _; omega)
            refine lv_aload_n hx hb dX_show_77 rfl (lv_at hl 3 rfl) ?_
            refine lv_iload_n hx hb dX_show_78 rfl (lv_at hl 0 rfl) ?_
            refine ct_V (n := 1) hE hI (kX_addLeaf (x := y) hp3 h0 hyy.2 hbT) hX3 rfl gm_X51 gi_X_addLeaf gs_X_X_addLeaf gz_X gc_X_addLeaf (by decide +kernel) ⟨Nat.le_of_ble_eq_true rfl, Nat.le_of_ble_eq_true rfl⟩ rfl hl.1 rfl (Nat.le_of_ble_eq_true rfl) dX_show_79 ⟨by show ce + 0 + _ ≤ CT; omega, by show sl + 0 + _ ≤ ST; omega⟩ (fun v w4 H locs hq hI => ?_)
            obtain ⟨rfl, b4, s1, s2, hp4⟩ := hq
            show W _ _ _ _ _ _ _ _ _ _ _ _ _ _ _ (F0 _ _ _ [])
            have hw4 := hw3.kp s2.1 (nX b2 hb2).1 (nX b2 hb2).2
            obtain ⟨g5, hX4, -⟩ := id hp4
            obtain ⟨gw4, kW4, -⟩ := id hw4
            refine lv_aload_n hx hb dX_show_82 rfl (lv_at hl 3 rfl) ?_
            refine lv_bipush (v := nI 41) hx hb dX_show_83 (by decide) ?_
            refine lv_iload hx hb dX_show_85 (lv_at hl 1 rfl) ?_
            refine lv_aload_n hx hb dX_show_87 rfl (lv_at hl 3 rfl) ?_
            refine mp_get hE.1 hI hX4 rfl gx_X 2 (by decide) (List.mem_cons_of_mem _ gf_X24) rfl dX_show_88 ?_
            refine mp_getN hE.1 hI kW4 rfl gx_W 4 (by decide) (ct_nw hE (q := ("BindingBench$Text", 40, "BindingBench$Walk", "count", "I")) (by decide +kernel)) rfl dX_show_91 ?_
            refine lv_isub hx hb dX_show_94 ?_
            rw [pk_sub hlf]
            have hp4' := hp4
            refine ct_V (n := 2) hE hI (kX_add (n := u.2 - u3.2) (mk := 41) hp4 (by omega) (by omega) (by omega)) hX4 rfl gm_X47 gi_X_add gs_X_X_add gz_X gc_X_add (by decide +kernel) ⟨Nat.le_of_ble_eq_true rfl, Nat.le_of_ble_eq_true rfl⟩ rfl hl.1 rfl (Nat.le_of_ble_eq_true rfl) dX_show_95 ⟨by show ce + 0 + _ + _ ≤ CT; rw [ll1]; omega, by show sl + 0 + _ + _ ≤ ST; rw [ll1]; omega⟩ (fun v w5 H locs hq hI => ?_)
            obtain ⟨rfl, b5', a1, a2, a3⟩ := hq
            show W _ _ _ _ _ _ _ _ _ _ _ _ _ _ _ (F0 _ _ _ [])
            obtain ⟨b5, d1, d2, hp5⟩ := po_Y.tr s1 s2 (po_Y.of a1 a2 a3)
            have hw5 := hw3.kp d2.1 (nX b2 hb2).1 (nX b2 hb2).2
            obtain ⟨g6, hX5, -⟩ := id hp5
            have k5 : kd [x, ba, k4, kr] w w5 := by
              obtain ⟨_, _, h, _⟩ := po_Y.on hb2 k3 (by simp) (by simp) (⟨b5, d1, d2, hp5⟩ : po_Y K w3 x b2 k4 _ _ w5)
              exact h
            have kT5 := k5.1 _ _ kT hn1
            have ll2 : (o2 ++ tm_lf y ++ List.replicate (u.2 - u3.2) ((41 : Nat) : Int)).length = o2.length + (tx_lf y).sum + (u.2 - u3.2) := by rw [List.length_append, ll1, List.length_replicate]
            rw [ll1] at hp5
            have fin : ∀ (ls : Array Slot), lv_has ls 5 [(3, .int (ci_i y)), (4, .int (nI u.2)), (2, .int (nI i)), (0, .ref x), (1, .ref t)] →
                W p l e { frames := 4, cells := CT, slots := ST, locals := 160 } s m ([Value.ref x, .ref t] : List Value).toArray below meth c H locs (ce + 0 + tx_c c2 o2.length (tx_lf y) + tx_c (tx_b c2 o2.length (tx_lf y)) (o2 ++ tm_lf y).length [u.2 - u3.2]) (sl + 0 + tx_s c2 o2.length (tx_lf y) + tx_s (tx_b c2 o2.length (tx_lf y)) (o2 ++ tm_lf y).length [u.2 - u3.2]) (MQ below (ct_Q D w s.heap.size (po_sh K w x ba k4 kr bc L)) ([Value.ref x, .ref t] : List Value).toArray s CT ST (mp_A w s.heap.size)) (F0 m 116 ls [.int (nI N3), .int (nI 32), .ref x]) := by
              intro ls hl
              refine ct_V (n := 2) hE hI (kX_add (n := N3) (mk := 32) hp5 (by omega) (by omega) (by omega)) hX5 rfl gm_X47 gi_X_add gs_X_X_add gz_X gc_X_add (by decide +kernel) ⟨Nat.le_of_ble_eq_true rfl, Nat.le_of_ble_eq_true rfl⟩ rfl hl.1 rfl (Nat.le_of_ble_eq_true rfl) dX_show_116 ⟨by show ce + 0 + _ + _ + _ ≤ CT; rw [ll1, ll2]; omega, by show sl + 0 + _ + _ + _ ≤ ST; rw [ll1, ll2]; omega⟩ (fun v w6 H locs hq hI => ?_)
              obtain ⟨rfl, b6', f1, f2, f3⟩ := hq
              show W _ _ _ _ _ _ _ _ _ _ _ _ _ _ _ (F0 _ _ _ [])
              refine next w6 H locs ls _ _ (by rw [ll1, ll2, tc]; omega) (by rw [ll1, ll2, ts]; omega) ?_ hI (lv_sub hl [2, 3, 4] rfl)
              rw [tb, eg]
              have hz := po_Y.tr d1 d2 (po_Y.of f1 f2 f3)
              rw [ll2] at hz
              have ht3 : List.replicate N3 ((32 : Nat) : Int) = if last = true then [] else [32] := by
                rw [← hN3]
                cases last <;> rfl
              rw [ht3, List.append_assoc, List.append_assoc] at hz
              exact hz
            refine lv_aload_n hx hb dX_show_98 rfl (lv_at hl 3 rfl) ?_
            refine lv_bipush (v := nI 32) hx hb dX_show_99 (by decide) ?_
            refine lv_iload_n hx hb dX_show_101 rfl (lv_at hl 2 rfl) ?_
            refine lv_iconst (v := nI 1) hx hb dX_show_102 (by decide) ?_
            refine lv_iadd hx hb dX_show_103 ?_
            refine lv_aload_n hx hb dX_show_104 rfl (lv_at hl 4 rfl) ?_
            refine mp_getN hE.1 hI kT5 rfl gx_T 1 (by decide) (ct_nw hE (q := ("BindingBench$Text", 31, "BindingBench$Term", "size", "I")) (by decide +kernel)) rfl dX_show_105 ?_
            rw [show ∀ a b : Nat, nI a + nI b = nI (a + b) from fun a b => (Int32.ofNat_add a b).symm]
            have hli : last = true ↔ L.length ≤ i + 1 := by
              rw [← hlast, List.isEmpty_iff, List.drop_eq_nil_iff]
            refine lv_icmp_ge (tgt := 115) hx hb dX_show_108 (by decide) (fun hq3 => ?_) (fun hq3 => ?_)
            · have hq3 : L.length ≤ i + 1 := (nI_leI (by omega) (by omega)).mp hq3
              have : N3 = 0 := by rw [← hN3, if_pos (hli.mpr hq3)]
              subst this
              refine lv_iconst (v := nI 0) hx hb dX_show_115 (by decide) ?_
              exact fin ls hl
            · have hq3 : ¬ L.length ≤ i + 1 := fun h => hq3 (nI_le h (by omega))
              have : N3 = 1 := by rw [← hN3, if_neg (fun h => hq3 (hli.mp h))]
              subst this
              refine lv_iconst (v := nI 1) hx hb dX_show_111 (by decide) ?_
              refine lv_goto (tgt := 116) hx hb dX_show_112 (by decide) ?_
              exact fin ls hl
          · have hq2 : y = -2 := (ci_eq (by omega) (by omega)).mp hq2
            have ea : tx_a1 y (u.2 - u3.2) last = [1] := by unfold tx_a1; rw [if_neg hq, if_pos hq2]
            have eg : tm_s1 y (u.2 - u3.2) last = [46] := by unfold tm_s1; rw [if_neg hq, if_pos hq2]
            rw [ea] at ec es
            refine lv_aload_n hx hb dX_show_67 rfl (lv_at hl 3 rfl) ?_
            refine lv_bipush (v := nI 46) hx hb dX_show_68 (by decide) ?_
            refine lv_iconst (v := nI 1) hx hb dX_show_70 (by decide) ?_
            refine ct_V (n := 2) hE hI (kX_add (n := 1) (mk := 46) hp3 (by omega) (by omega) (by omega)) hX3 rfl gm_X47 gi_X_add gs_X_X_add gz_X gc_X_add (by decide +kernel) ⟨Nat.le_of_ble_eq_true rfl, Nat.le_of_ble_eq_true rfl⟩ rfl hl.1 rfl (Nat.le_of_ble_eq_true rfl) dX_show_71 ⟨by show ce + 0 + _ ≤ CT; omega, by show sl + 0 + _ ≤ ST; omega⟩ (fun v w4 H locs hq hI => ?_)
            obtain ⟨rfl, b4, a1, a2, a3⟩ := hq
            show W _ _ _ _ _ _ _ _ _ _ _ _ _ _ _ (F0 _ _ _ [])
            refine lv_goto (tgt := 119) hx hb dX_show_74 (by decide) ?_
            refine next w4 H locs ls _ _ (by rw [ea]; omega) (by rw [ea]; omega) ?_ hI (lv_sub hl [2, 3, 4] rfl)
            rw [ea, eg]
            exact po_Y.of a1 a2 a3
        · have hq : y = -1 := (ci_eq (by omega) (by omega)).mp hq
          have ea : tx_a1 y (u.2 - u3.2) last = [1] := by unfold tx_a1; rw [if_pos hq]
          have eg : tm_s1 y (u.2 - u3.2) last = [40] := by unfold tm_s1; rw [if_pos hq]
          rw [ea] at ec es
          refine lv_aload_n hx hb dX_show_51 rfl (lv_at hl 3 rfl) ?_
          refine lv_bipush (v := nI 40) hx hb dX_show_52 (by decide) ?_
          refine lv_iconst (v := nI 1) hx hb dX_show_54 (by decide) ?_
          refine ct_V (n := 2) hE hI (kX_add (n := 1) (mk := 40) hp3 (by omega) (by omega) (by omega)) hX3 rfl gm_X47 gi_X_add gs_X_X_add gz_X gc_X_add (by decide +kernel) ⟨Nat.le_of_ble_eq_true rfl, Nat.le_of_ble_eq_true rfl⟩ rfl hl.1 rfl (Nat.le_of_ble_eq_true rfl) dX_show_55 ⟨by show ce + 0 + _ ≤ CT; omega, by show sl + 0 + _ ≤ ST; omega⟩ (fun v w4 H locs hq hI => ?_)
          obtain ⟨rfl, b4, a1, a2, a3⟩ := hq
          show W _ _ _ _ _ _ _ _ _ _ _ _ _ _ _ (F0 _ _ _ [])
          refine lv_goto (tgt := 119) hx hb dX_show_58 (by decide) ?_
          refine next w4 H locs ls _ _ (by rw [ea]; omega) (by rw [ea]; omega) ?_ hI (lv_sub hl [2, 3, 4] rfl)
          rw [ea, eg]
          exact po_Y.of a1 a2 a3
  exact loop L.length 0 w2 H locs ls ba bc 0 0 [] ([], 0) (by omega) (Or.inl rfl) k2 hp2 hw2 pt_ub0 pt_sr0 rfl rfl (by rw [← hCT]; exact Nat.zero_add _) (by rw [← hST]; exact Nat.zero_add _) hI (lv_sub hl [0, 1, 2] rfl)
end KX3
end
section
/-! the bench as calls find it: registers hold the terms of σ, OUT is out; f are the labels of its cells -/
def iv_B (K : Nat → ClassId) (w : mp_W) (f : Nat → Nat) (mi : Nat) (σ : Nat → Std.Format) (bc : Nat) (out : List Int) : Prop :=
  ph_i f ∧ w (f 0) = some (.inr (4, [.ref (f 1), .ref (f 2), .ref (f 3)])) ∧ (∃ g, w (f 1) = some (ob_R K g) ∧ ∀ i, i < 16 → g i = some (f (13 + 2 * i))) ∧ pt_G K w f mi ∧
  (∀ i, i < 16 → (∃ cap, pt_R K w (f (13 + 2 * i)) (f (14 + 2 * i)) cap (tm_db (σ i) [])) ∧ tm_ok (σ i)) ∧ pt_Y K w (f 3) (f 4) (f 11) bc out ∧ (∃ u, pt_W K w (f 11) (f 12) 1 0 u) ∧ 64 ≤ bc ∧ bc ≤ 1000000
theorem pt_W.at {K : Nat → ClassId} {w : mp_W} {k ka fa ff : Nat} {u : List Nat × Nat} (h : pt_W K w k ka fa ff u) : w k ≠ none ∧ w ka ≠ none := by
  obtain ⟨g, h1, h2, -⟩ := h
  rw [h1, h2]
  exact ⟨by simp, by simp⟩
theorem pt_V.at {K : Nat → ClassId} {w : mp_W} {t ar cap : Nat} (h : pt_V K w t ar cap) : w t ≠ none ∧ w ar ≠ none := by
  obtain ⟨n, g, h1, h2, -⟩ := h
  rw [h1, h2]
  exact ⟨by simp, by simp⟩
theorem pt_T.at {K : Nat → ClassId} {w : mp_W} {t ar cap : Nat} {L : List Int} (h : pt_T K w t ar cap L) : w t ≠ none ∧ w ar ≠ none := by
  obtain ⟨g, h1, h2, -⟩ := h
  rw [h1, h2]
  exact ⟨by simp, by simp⟩
theorem iv_B.dom {K : Nat → ClassId} {w : mp_W} {f : Nat → Nat} {mi : Nat} {σ : Nat → Std.Format} {bc : Nat} {out : List Int} (h : iv_B K w f mi σ bc out) : ∀ j, j < 49 → w (f j) ≠ none := by
  obtain ⟨hf, h0, ⟨g, h1, -⟩, ⟨hm, ⟨M, hS, hT, ⟨u1, W1⟩, ⟨u2, W2⟩, u3, W3⟩, hV⟩, hr, hY, ⟨u4, W4⟩, -⟩ := h
  intro j hj
  by_cases a : j < 13
  · have : j = 0 ∨ j = 1 ∨ j = 2 ∨ j = 3 ∨ j = 4 ∨ j = 5 ∨ j = 6 ∨ j = 7 ∨ j = 8 ∨ j = 9 ∨ j = 10 ∨ j = 11 ∨ j = 12 := by omega
    rcases this with rfl | rfl | rfl | rfl | rfl | rfl | rfl | rfl | rfl | rfl | rfl | rfl | rfl
    · rw [h0]; simp
    · rw [h1]; simp
    · rw [hS]; simp
    · exact hY.at.1
    · exact hY.at.2
    · exact W1.at.1
    · exact W1.at.2
    · exact W2.at.1
    · exact W2.at.2
    · exact W3.at.1
    · exact W3.at.2
    · exact W4.at.1
    · exact W4.at.2
  · obtain ⟨i, hi⟩ : ∃ i, j = 13 + 2 * i ∨ j = 14 + 2 * i := ⟨(j - 13) / 2, by omega⟩
    by_cases hi6 : i < 16
    · obtain ⟨⟨cap, hR⟩, -⟩ := hr i hi6
      rcases hi with rfl | rfl
      · exact hR.1.at.1
      · exact hR.1.at.2
    · by_cases hm2 : i = mi
      · subst hm2
        rcases hi with rfl | rfl
        · exact hT.at.1
        · exact hT.at.2
      · have : i = 33 - mi := by omega
        subst this
        rcases hi with rfl | rfl
        · exact hV.at.1
        · exact hV.at.2
/-- the Workshop's own cells alone changed -/
theorem iv_B.ws {K : Nat → ClassId} {w w' : mp_W} {f : Nat → Nat} {mi mi' : Nat} {σ : Nat → Std.Format} {bc : Nat} {out : List Int} (h : iv_B K w f mi σ bc out) (ho : mp_off (fp_G f) w w') (hG : pt_G K w' f mi') : iv_B K w' f mi' σ bc out := by
  obtain ⟨hf, h0, ⟨g, h1, h1'⟩, -, hr, hY, ⟨u4, W4⟩, hb⟩ := h
  have nG : ∀ x, x < 45 → (x < 2 ∨ 10 < x ∨ x = 3 ∨ x = 4) → f x ∉ fp_G f := fun x h q => hf.nin (by omega) [2, 5, 6, 7, 8, 9, 10, 45, 46, 47, 48] (by intro b hb; simp at hb; omega)
  refine ⟨hf, by rw [ho _ (nG 0 (by decide) (by decide))]; exact h0, ⟨g, by rw [ho _ (nG 1 (by decide) (by decide))]; exact h1, h1'⟩, hG, fun i hi => ?_, ?_, ⟨u4, W4.off ho (nG 11 (by decide) (by decide)) (nG 12 (by decide) (by decide))⟩, hb⟩
  · obtain ⟨⟨cap, hR⟩, hk⟩ := hr i hi
    exact ⟨⟨cap, hR.off ho (nG _ (by omega) (by omega)) (nG _ (by omega) (by omega))⟩, hk⟩
  · obtain ⟨g2, a1, a2, a3⟩ := hY
    exact ⟨g2, by rw [ho _ (nG 3 (by decide) (by decide))]; exact a1, by rw [ho _ (nG 4 (by decide) (by decide))]; exact a2, a3⟩
abbrev fu (f : Nat → Nat) (k v : Nat) : Nat → Nat := fun j => if j = k then v else f j
abbrev su (σ : Nat → Std.Format) (k : Nat) (t : Std.Format) : Nat → Std.Format := fun i => if i = k then t else σ i
theorem fu_ne {f : Nat → Nat} {k v j : Nat} (h : j ≠ k) : fu f k v j = f j := if_neg h
theorem fu_self {f : Nat → Nat} {k v : Nat} : fu f k v k = v := if_pos rfl
theorem ph_fu {w : mp_W} {f : Nat → Nat} (h : ph_i f) (hd : ∀ j, j < 49 → w (f j) ≠ none) {k v : Nat} (hv : v = f k ∨ w v = none) : ph_i (fu f k v) := by
  rcases hv with rfl | hv
  · have : fu f k (f k) = f := by
      funext j
      by_cases e : j = k
      · subst e; exact fu_self
      · exact fu_ne e
    rw [this]
    exact h
  · intro i j hi hj e
    by_cases a : i = k
    · by_cases b : j = k
      · omega
      · rw [a, fu_self, fu_ne b] at e
        exact absurd hv (by rw [e]; exact hd j hj)
    · by_cases b : j = k
      · rw [b, fu_self, fu_ne a] at e
        exact absurd hv (by rw [← e]; exact hd i hi)
      · rw [fu_ne a, fu_ne b] at e
        exact h i j hi hj e
/-- a register took a new term -/
theorem iv_B.set {K : Nat → ClassId} {w w' : mp_W} {f : Nat → Nat} {mi : Nat} {σ : Nat → Std.Format} {bc t ar cap : Nat} {out : List Int} {u : Std.Format} (h : iv_B K w f mi σ bc out) (ht : t < 16) (har : ar = f (14 + 2 * t) ∨ w ar = none) (ho : mp_off [f (13 + 2 * t), ar] w w') (hR : pt_R K w' (f (13 + 2 * t)) ar cap (tm_db u [])) (hu : tm_ok u) : iv_B K w' (fu f (14 + 2 * t) ar) mi (su σ t u) bc out := by
  have hd := h.dom
  obtain ⟨hf, h0, ⟨g, h1, h1'⟩, ⟨hm, ⟨M, hS, hT, ⟨u1, W1⟩, ⟨u2, W2⟩, u3, W3⟩, hV⟩, hr, hY, ⟨u4, W4⟩, hb⟩ := h
  have hn : ∀ j, j < 49 → j ≠ 13 + 2 * t → j ≠ 14 + 2 * t → f j ∉ [f (13 + 2 * t), ar] := by
    intro j hj n1 n2
    simp
    refine ⟨hf.ne hj (by omega) n1, fun e => ?_⟩
    rcases har with e2 | e2
    · exact hf.ne hj (by omega) n2 (e.trans e2)
    · exact hd j hj (by rw [e]; exact e2)
  have ek : ∀ j, j ≠ 14 + 2 * t → fu f (14 + 2 * t) ar j = f j := fun j h => fu_ne h
  refine ⟨ph_fu (w := w) hf hd har, ?_, ⟨g, ?_, fun i hi => ?_⟩, ⟨hm, ⟨M, ?_, ?_, ⟨u1, ?_⟩, ⟨u2, ?_⟩, u3, ?_⟩, ?_⟩, fun i hi => ?_, ?_, ⟨u4, ?_⟩, hb⟩
  · rw [ek 0 (by omega), ek 1 (by omega), ek 2 (by omega), ek 3 (by omega), ho _ (hn 0 (by omega) (by omega) (by omega))]; exact h0
  · rw [ek 1 (by omega), ho _ (hn 1 (by omega) (by omega) (by omega))]; exact h1
  · rw [ek _ (by omega)]; exact h1' i hi
  · show w' (fu f (14 + 2 * t) ar 2) = some (.inr (3, [.ref (fu f (14 + 2 * t) ar (13 + 2 * mi)), .ref (fu f (14 + 2 * t) ar (13 + 2 * (33 - mi))), .ref (fu f (14 + 2 * t) ar 5), .ref (fu f (14 + 2 * t) ar 7), .ref (fu f (14 + 2 * t) ar 9)]))
    rw [ek 2 (by omega), ek _ (by omega), ek _ (by omega), ek 5 (by omega), ek 7 (by omega), ek 9 (by omega), ho _ (hn 2 (by omega) (by omega) (by omega))]; exact hS
  · rw [ek _ (by omega), ek _ (by omega)]; exact hT.off ho (hn _ (by omega) (by omega) (by omega)) (hn _ (by omega) (by omega) (by omega))
  · rw [ek 5 (by omega), ek 6 (by omega)]; exact W1.off ho (hn 5 (by omega) (by omega) (by omega)) (hn 6 (by omega) (by omega) (by omega))
  · rw [ek 7 (by omega), ek 8 (by omega)]; exact W2.off ho (hn 7 (by omega) (by omega) (by omega)) (hn 8 (by omega) (by omega) (by omega))
  · rw [ek 9 (by omega), ek 10 (by omega)]; exact W3.off ho (hn 9 (by omega) (by omega) (by omega)) (hn 10 (by omega) (by omega) (by omega))
  · rw [ek _ (by omega), ek _ (by omega)]; exact hV.off ho (hn _ (by omega) (by omega) (by omega)) (hn _ (by omega) (by omega) (by omega))
  · by_cases e : i = t
    · subst e
      rw [ek _ (by omega), fu_self, show su σ i u i = u from if_pos rfl]
      exact ⟨⟨cap, hR⟩, hu⟩
    · rw [ek _ (by omega), ek _ (by omega), show su σ t u i = σ i from if_neg e]
      obtain ⟨⟨cap2, hR2⟩, hk⟩ := hr i hi
      exact ⟨⟨cap2, hR2.off ho (hn _ (by omega) (by omega) (by omega)) (hn _ (by omega) (by omega) (by omega))⟩, hk⟩
  · rw [ek 3 (by omega), ek 4 (by omega), ek 11 (by omega)]
    obtain ⟨g2, a1, a2, a3⟩ := hY
    exact ⟨g2, by rw [ho _ (hn 3 (by omega) (by omega) (by omega))]; exact a1, by rw [ho _ (hn 4 (by omega) (by omega) (by omega))]; exact a2, a3⟩
  · rw [ek 11 (by omega), ek 12 (by omega)]; exact W4.off ho (hn 11 (by omega) (by omega) (by omega)) (hn 12 (by omega) (by omega) (by omega))
/-- how a call leaves the bench -/
def bx (K : Nat → ClassId) (w : mp_W) (f : Nat → Nat) (w' : mp_W) (σ : Nat → Std.Format) (bc : Nat) (out : List Int) : Prop :=
  ∃ f' mi', iv_B K w' f' mi' σ bc out ∧ f' 0 = f 0 ∧ (∀ j, j < 49 → f' j = f j ∨ w (f' j) = none) ∧ ∀ q x, w q = some x → (∀ j, j < 49 → q ≠ f j) → w' q = some x
theorem bx.rf {K : Nat → ClassId} {w : mp_W} {f : Nat → Nat} {mi : Nat} {σ : Nat → Std.Format} {bc : Nat} {out : List Int} (h : iv_B K w f mi σ bc out) : bx K w f w σ bc out := ⟨f, mi, h, rfl, fun _ _ => Or.inl rfl, fun _ _ h _ => h⟩
theorem bx.ws {K : Nat → ClassId} {w w' : mp_W} {f : Nat → Nat} {mi mi' : Nat} {σ : Nat → Std.Format} {bc : Nat} {out : List Int} (h : iv_B K w f mi σ bc out) (ho : mp_off (fp_G f) w w') (hG : pt_G K w' f mi') : bx K w f w' σ bc out := by
  refine ⟨f, mi', h.ws ho hG, rfl, fun _ _ => Or.inl rfl, fun q x hq hn => ?_⟩
  rw [ho q]
  · exact hq
  · simp
    exact ⟨hn 2 (by omega), hn 5 (by omega), hn 6 (by omega), hn 7 (by omega), hn 8 (by omega), hn 9 (by omega), hn 10 (by omega), hn 45 (by omega), hn 46 (by omega), hn 47 (by omega), hn 48 (by omega)⟩
/-- the Workshop worked, and then a register took a term -/
theorem bx.set {K : Nat → ClassId} {w w1 w' : mp_W} {f : Nat → Nat} {mi mi' : Nat} {σ : Nat → Std.Format} {bc t ar cap : Nat} {out : List Int} {u : Std.Format} (h : iv_B K w f mi σ bc out) (ho1 : mp_off (fp_G f) w w1) (h1 : iv_B K w1 f mi' σ bc out) (ht : t < 16) (har : ar = f (14 + 2 * t) ∨ w1 ar = none) (ho : mp_off [f (13 + 2 * t), ar] w1 w') (hR : pt_R K w' (f (13 + 2 * t)) ar cap (tm_db u [])) (hu : tm_ok u) : bx K w f w' (su σ t u) bc out := by
  have hfp : ∀ q, (∀ j, j < 49 → q ≠ f j) → q ∉ fp_G f := fun q hn => by
    simp
    exact ⟨hn 2 (by omega), hn 5 (by omega), hn 6 (by omega), hn 7 (by omega), hn 8 (by omega), hn 9 (by omega), hn 10 (by omega), hn 45 (by omega), hn 46 (by omega), hn 47 (by omega), hn 48 (by omega)⟩
  have hno : w1 ar = none → w ar = none := fun e => by
    have : ar ∉ fp_G f := hfp ar (fun j hj e2 => h1.dom j hj (by rw [← e2]; exact e))
    rw [← ho1 ar this]
    exact e
  refine ⟨fu f (14 + 2 * t) ar, mi', h1.set ht har ho hR hu, fu_ne (by omega), fun j hj => ?_, fun q x hq hn => ?_⟩
  · by_cases e : j = 14 + 2 * t
    · subst e
      rw [fu_self]
      exact har.imp id hno
    · exact Or.inl (fu_ne e)
  · have hq1 : w1 q = some x := by rw [ho1 q (hfp q hn)]; exact hq
    rw [ho q]
    · exact hq1
    · simp
      refine ⟨hn _ (by omega), fun e => ?_⟩
      rcases har with e2 | e2
      · exact hn _ (by omega) (e.trans e2)
      · rw [e, e2] at hq1; cases hq1
theorem iv_B.S {K : Nat → ClassId} {w : mp_W} {f : Nat → Nat} {mi : Nat} {σ : Nat → Std.Format} {bc : Nat} {out : List Int} (h : iv_B K w f mi σ bc out) : ∃ M, pt_S K w f mi M := h.2.2.2.1.2.1
/-- after a Workshop call that leaves its own cells well -/
theorem pt_G.of {K : Nat → ClassId} {w w' : mp_W} {f : Nat → Nat} {mi : Nat} {M : List Int} (hf : ph_i f) (h : pt_G K w f mi) (ho : mp_off (fp_S f mi) w w') (hS : pt_S K w' f mi M) : pt_G K w' f mi := by
  obtain ⟨hm, -, hV⟩ := h
  have nS : ∀ x, x < 49 → x ≠ 13 + 2 * mi → x ≠ 14 + 2 * mi → (x < 5 ∨ 10 < x) → f x ∉ fp_S f mi := fun x h q1 q2 q3 => hf.nin h [5, 6, 7, 8, 9, 10, 13 + 2 * mi, 14 + 2 * mi] (by intro b hb; simp at hb; omega)
  exact ⟨hm, ⟨M, hS⟩, hV.off ho (nS _ (by omega) (by omega) (by omega) (by omega)) (nS _ (by omega) (by omega) (by omega) (by omega))⟩
/-- the numbers of registers and of FREE -/
def rk (i : Int32) : Option Nat := if 0 ≤ i.toInt ∧ i.toInt ≤ 15 then some i.toInt.toNat else none
def fk (i : Int32) : Option Nat := if 0 ≤ i.toInt ∧ i.toInt ≤ 99 then some i.toInt.toNat else none
theorem rk_some {i : Int32} {k : Nat} (h : rk i = some k) : k < 16 ∧ i = nI k := by
  unfold rk at h
  split at h
  · cases h
    refine ⟨by omega, ?_⟩
    rw [← ci_nat, Int.toNat_of_nonneg (by omega)]
    exact ci_of i
  · cases h
theorem fk_some {i : Int32} {k : Nat} (h : fk i = some k) : k < 100 ∧ i = nI k := by
  unfold fk at h
  split at h
  · cases h
    refine ⟨by omega, ?_⟩
    rw [← ci_nat, Int.toNat_of_nonneg (by omega)]
    exact ci_of i
  · cases h
section KB1
variable {l : Launch} {n0 : Nat} {D : va_G} {K : Nat → ClassId} {w : mp_W} {f : Nat → Nat} {mi bc : Nat} {σ : Nat → Std.Format} {out : List Int}
set_option maxRecDepth 100000 in
theorem kB_register (hl0 : l.stackTraces = false) (h : iv_B K w f mi σ bc out) (i : Int32) : ct_X l n0 D K yB_register (Cond.code yB_register cB_register 2 (some (.object "BindingBench$Term"))) 6 90 1 6 [.ref (f 0), .int i] w (fun v w' => w' = w ∧ ∃ k, rk i = some k ∧ v = some (.ref (f (13 + 2 * k)))) (fun E w' => w' = w ∧ E = nx_N ∧ rk i = none) := by
  obtain ⟨hf, h0, ⟨g, h1, h1'⟩, -⟩ := h
  have hi := ci_rng i
  refine ct_goX (own := nm_B) (by decide) rfl (Nat.le_of_ble_eq_true rfl) ?_
  intro p e s m below meth c ls hE hI hr hk hout hl
  have hx := hE.1.1.1
  have hb := hE.1.1.2.1
  have hl : lv_has ls 2 [(0, .ref (f 0)), (1, .int i)] := hl
  have bad : rk i = none → ∀ ls, lv_has ls 2 [(0, .ref (f 0)), (1, .int i)] → W p l e { frames := 6, cells := 1, slots := 6, locals := 90 } s m ([Value.ref (f 0), .int i] : List Value).toArray below meth c s.heap [] 0 0 (vx_MQ below (ct_Q D w s.heap.size (fun v w' => w' = w ∧ ∃ k, rk i = some k ∧ v = some (.ref (f (13 + 2 * k))))) (ct_C D w s.heap.size (fun E w' => w' = w ∧ E = nx_N ∧ rk i = none)) ([Value.ref (f 0), .int i] : List Value).toArray s 1 6 (mp_A w s.heap.size)) (F0 m 10 ls []) := by
    intro hb0 ls hl
    exact nx_throw hE hl0 hI (cls := nx_N) (sup := "java/lang/RuntimeException") (text := "no such REGISTER") (names := ["java/lang/Exception"]) (ic := 137) (i1 := 13) (b1 := prog_21_method_4_code) (by decide +kernel) (by decide +kernel) (by decide +kernel) nx_d0 nx_d1 nx_d2 nx_d5 gk_B133 gz_Jn (by decide +kernel) nx_oa nx_og hl.1 dB_register_10 dB_register_13 dB_register_14 dB_register_16 dB_register_19 hout (Nat.le_of_ble_eq_true rfl) (Nat.le_of_ble_eq_true rfl) (Nat.le_of_ble_eq_true rfl) (Nat.le_of_ble_eq_true rfl) hk ⟨rfl, rfl, hb0⟩ (Nat.le_of_ble_eq_true rfl) (Nat.le_of_ble_eq_true rfl)
  refine lv_iload_n hx hb dB_register_0 rfl (lv_at hl 1 rfl) ?_
  refine lv_if_lt (tgt := 10) hx hb dB_register_1 (by decide) (fun hq => ?_) (fun hq => ?_)
  · rw [Int32.lt_iff_toInt_lt] at hq
    exact bad (by unfold rk; rw [if_neg (by have : (0 : Int32).toInt = 0 := rfl; omega)]) ls hl
  · rw [Int32.lt_iff_toInt_lt] at hq
    refine lv_iload_n hx hb dB_register_4 rfl (lv_at hl 1 rfl) ?_
    refine lv_bipush (v := 16) hx hb dB_register_5 (by decide) ?_
    refine lv_icmp_lt (tgt := 20) hx hb dB_register_7 (by decide) (fun hq2 => ?_) (fun hq2 => ?_)
    · rw [Int32.lt_iff_toInt_lt] at hq2
      have e0 : (0 : Int32).toInt = 0 := rfl
      have e1 : (16 : Int32).toInt = 16 := rfl
      have hk0 : rk i = some i.toInt.toNat := by unfold rk; rw [if_pos (by omega)]
      obtain ⟨hk1, hk2⟩ := rk_some hk0
      refine lv_aload_n hx hb dB_register_20 rfl (lv_at hl 0 rfl) ?_
      refine mp_get hE.1 hI h0 rfl gx_B 0 (by decide) (List.mem_cons_of_mem _ gf_B11) rfl dB_register_21 ?_
      refine lv_iload_n hx hb dB_register_24 rfl (lv_at hl 1 rfl) ?_
      refine mp_ald hE.1 hI h1 3 rfl (by rw [hk2]; exact vp_in_nI hk1 (by omega)) dB_register_25 ?_
      rw [show i.toNatClampNeg = i.toInt.toNat from by rw [congrArg Int32.toNatClampNeg hk2]; exact nI_clamp (by omega), h1' _ hk1]
      exact vx_ret (ct_aret hE hI hr (Or.inl ⟨_, rfl⟩) hk ⟨rfl, _, hk0, rfl⟩ (by decide) (by decide) dB_register_26)
    · rw [Int32.lt_iff_toInt_lt] at hq2
      exact bad (by unfold rk; rw [if_neg (by have : (16 : Int32).toInt = 16 := rfl; omega)]) ls hl
set_option maxRecDepth 100000 in
theorem kB_checkFree (hl0 : l.stackTraces = false) (i : Int32) : ct_X l n0 D K yB_checkFree (Cond.code yB_checkFree cB_checkFree 1 none) 6 90 1 6 [.int i] w (fun v w' => w' = w ∧ v = none ∧ ∃ k, fk i = some k) (fun E w' => w' = w ∧ E = nx_N ∧ fk i = none) := by
  have hi := ci_rng i
  refine ct_goX (own := nm_B) (by decide) rfl (Nat.le_of_ble_eq_true rfl) ?_
  intro p e s m below meth c ls hE hI hr hk hout hl
  have hx := hE.1.1.1
  have hb := hE.1.1.2.1
  have hl : lv_has ls 1 [(0, .int i)] := hl
  have bad : fk i = none → ∀ ls, lv_has ls 1 [(0, .int i)] → W p l e { frames := 6, cells := 1, slots := 6, locals := 90 } s m ([Value.int i] : List Value).toArray below meth c s.heap [] 0 0 (vx_MQ below (ct_Q D w s.heap.size (fun v w' => w' = w ∧ v = none ∧ ∃ k, fk i = some k)) (ct_C D w s.heap.size (fun E w' => w' = w ∧ E = nx_N ∧ fk i = none)) ([Value.int i] : List Value).toArray s 1 6 (mp_A w s.heap.size)) (F0 m 10 ls []) := by
    intro hb0 ls hl
    exact nx_throw hE hl0 hI (cls := nx_N) (sup := "java/lang/RuntimeException") (text := "no such FREE") (names := ["java/lang/Exception"]) (ic := 137) (i1 := 13) (b1 := prog_21_method_4_code) (by decide +kernel) (by decide +kernel) (by decide +kernel) nx_d0 nx_d1 nx_d2 nx_d5 gk_B133 gz_Jn (by decide +kernel) nx_oa nx_og hl.1 dB_checkFree_10 dB_checkFree_13 dB_checkFree_14 dB_checkFree_16 dB_checkFree_19 hout (Nat.le_of_ble_eq_true rfl) (Nat.le_of_ble_eq_true rfl) (Nat.le_of_ble_eq_true rfl) (Nat.le_of_ble_eq_true rfl) hk ⟨rfl, rfl, hb0⟩ (Nat.le_of_ble_eq_true rfl) (Nat.le_of_ble_eq_true rfl)
  refine lv_iload_n hx hb dB_checkFree_0 rfl (lv_at hl 0 rfl) ?_
  refine lv_if_lt (tgt := 10) hx hb dB_checkFree_1 (by decide) (fun hq => ?_) (fun hq => ?_)
  · rw [Int32.lt_iff_toInt_lt] at hq
    exact bad (by unfold fk; rw [if_neg (by have : (0 : Int32).toInt = 0 := rfl; omega)]) ls hl
  · rw [Int32.lt_iff_toInt_lt] at hq
    refine lv_iload_n hx hb dB_checkFree_4 rfl (lv_at hl 0 rfl) ?_
    refine lv_bipush (v := 99) hx hb dB_checkFree_5 (by decide) ?_
    refine lv_icmp_le (tgt := 20) hx hb dB_checkFree_7 (by decide) (fun hq2 => ?_) (fun hq2 => ?_)
    · rw [Int32.le_iff_toInt_le] at hq2
      have e0 : (0 : Int32).toInt = 0 := rfl
      have e1 : (99 : Int32).toInt = 99 := rfl
      exact vx_ret (ct_vret hE hI hr hk ⟨rfl, rfl, i.toInt.toNat, by unfold fk; rw [if_pos (by omega)]⟩ (by decide) (by decide) dB_checkFree_20)
    · rw [Int32.le_iff_toInt_le] at hq2
      exact bad (by unfold fk; rw [if_neg (by have : (99 : Int32).toInt = 99 := rfl; omega)]) ls hl
end KB1
end
section
/-! what the calls do, by terms; free, apply, bind, put -/
abbrev oR : Type := Nat × Nat × (Nat → Std.Format)
abbrev lfm (n : Int) : Std.Format := .nest n .nil
def ck (c : Nat) (σ : Nat → Std.Format) (t : Nat) (X : Std.Format) : oR := match tm_chk X with
  | none => (c, 0, σ)
  | some u => (0, tm_sz u, su σ t u)
def op_free (σ : Nat → Std.Format) (to n : Int32) : oR := match rk to, fk n with
  | some t, some k => (0, 0, su σ t (lfm k))
  | _, _ => (1, 0, σ)
def op_apply (σ : Nat → Std.Format) (to a b : Int32) : oR := match rk to, rk a, rk b with
  | some t, some x, some y => ck 2 σ t (.append (σ x) (σ y))
  | _, _, _ => (1, 0, σ)
def op_bind (σ : Nat → Std.Format) (to a n : Int32) : oR := match rk to, rk a, fk n with
  | some t, some x, some k => ck 2 σ t (.tag 5000 (tm_sub k (lfm (-5001)) (σ x)))
  | _, _, _ => (1, 0, σ)
def op_put (σ : Nat → Std.Format) (to a n b : Int32) : oR := match rk to, rk a, fk n, rk b with
  | some t, some x, some k, some y => ck 2 σ t (tm_sub k (σ y) (σ x))
  | _, _, _, _ => (1, 0, σ)
theorem ck_some {c t : Nat} {σ : Nat → Std.Format} {X u : Std.Format} (h : tm_chk X = some u) : ck c σ t X = (0, tm_sz u, su σ t u) := by unfold ck; rw [h]
theorem ck_none {c t : Nat} {σ : Nat → Std.Format} {X : Std.Format} (h : tm_chk X = none) : ck c σ t X = (c, 0, σ) := by unfold ck; rw [h]
def ex_1 (k : Nat) : String := if k = 1 then nx_N else "java/lang/IllegalStateException"
def ex_2 (k : Nat) : String := if k = 1 then nx_N else if k = 2 then "java/lang/IllegalArgumentException" else "java/lang/IllegalStateException"
def ex_3 (k : Nat) : String := if k = 1 then nx_N else if k = 2 then "java/lang/IllegalStateException" else "java/lang/ArithmeticException"
abbrev po_B (K : Nat → ClassId) (w : mp_W) (f : Nat → Nat) (bc : Nat) (out : List Int) (r : oR) : Option Value → mp_W → Prop := fun v w' => r.1 = 0 ∧ v = some (.int (nI r.2.1)) ∧ bx K w f w' r.2.2 bc out
abbrev po_Bv (K : Nat → ClassId) (w : mp_W) (f : Nat → Nat) (bc : Nat) (out : List Int) (r : oR) : Option Value → mp_W → Prop := fun v w' => r.1 = 0 ∧ v = none ∧ bx K w f w' r.2.2 bc out
abbrev th_B (K : Nat → ClassId) (w : mp_W) (f : Nat → Nat) (bc : Nat) (out : List Int) (ex : Nat → String) (r : oR) : String → mp_W → Prop := fun E w' => r.1 ≠ 0 ∧ E = ex r.1 ∧ bx K w f w' r.2.2 bc out
section KB2
variable {l : Launch} {n0 : Nat} {D : va_G} {K : Nat → ClassId} {w : mp_W} {f : Nat → Nat} {mi bc : Nat} {σ : Nat → Std.Format} {out : List Int}
/-- a Workshop call made the row of X -/
theorem iv_B.made {w1 : mp_W} {X u : Std.Format} (h : iv_B K w f mi σ bc out) (hs : tm_sc X []) (hu : tm_chk X = some u) (ho : mp_off (fp_S f mi) w w1) (hS : pt_S K w1 f mi (tm_db X [])) : mp_off (fp_G f) w w1 ∧ iv_B K w1 f mi σ bc out ∧ pt_R K w1 (f (13 + 2 * mi)) (f (14 + 2 * mi)) 2000 (tm_db u []) ∧ tm_ok u := by
  obtain ⟨h1, h2, h3, h4, h5⟩ := tm_chk_ok hs hu
  have hG := fp_G_S h.2.2.2.1.1 ho
  refine ⟨hG, h.ws hG (pt_G.of h.1 h.2.2.2.1 ho hS), ⟨by rw [h2]; exact hS.2.1, by rw [h2, tm_db_len]; exact h4, Nat.le_refl _, by rw [h2]; exact tm_db_b hs h4⟩, h1⟩
theorem iv_B.reg (h : iv_B K w f mi σ bc out) {k : Nat} (hk : k < 16) : ∃ cap, pt_R K w (f (13 + 2 * k)) (f (14 + 2 * k)) cap (tm_db (σ k) []) := (h.2.2.2.2.1 k hk).1
theorem iv_B.ok (h : iv_B K w f mi σ bc out) {k : Nat} (hk : k < 16) : tm_ok (σ k) := (h.2.2.2.2.1 k hk).2
set_option maxRecDepth 100000 in
theorem kB_free (hl0 : l.stackTraces = false) (h : iv_B K w f mi σ bc out) (to n : Int32) : ct_X l n0 D K yB_free (Cond.code yB_free cB_free 4 none) 7 120 2 12 [.ref (f 0), .int to, .int n] w (po_Bv K w f bc out (op_free σ to n)) (th_B K w f bc out ex_1 (op_free σ to n)) := by
  have h0 := h.2.1
  refine ct_goX (own := nm_B) (by decide) rfl (Nat.le_of_ble_eq_true rfl) ?_
  intro p e s m below meth c ls hE hI hr hk hout hl
  have hx := hE.1.1.1
  have hb := hE.1.1.2.1
  have hl : lv_has ls 4 [(0, .ref (f 0)), (1, .int to), (2, .int n)] := hl
  refine lv_aload_n hx hb dB_free_0 rfl (lv_at hl 0 rfl) ?_
  refine lv_iload_n hx hb dB_free_1 rfl (lv_at hl 1 rfl) ?_
  refine ct_VX (n := 1) hE hI (kB_register hl0 h to) h0 rfl gm_B32 gi_B_register gs_B_B_register gz_B gc_B_register (by decide +kernel) ⟨Nat.le_of_ble_eq_true rfl, Nat.le_of_ble_eq_true rfl⟩ rfl hl.1 rfl (Nat.le_of_ble_eq_true rfl) dB_free_2 ⟨Nat.le_of_ble_eq_true rfl, Nat.le_of_ble_eq_true rfl⟩ (fun v w1 H locs hq hI => ?_) (fun E q ce w1 H locs ht hI hq hv hcl => ?_)
  · obtain ⟨hw, t, hrt, rfl⟩ := hq
    subst w1
    obtain ⟨ht16, -⟩ := rk_some hrt
    obtain ⟨cap, hR⟩ := h.reg ht16
    obtain ⟨g, kT, kA, kf, kc, kc2, kx⟩ := hR.out
    have hsz : 1 ≤ cap := Nat.le_trans (by rw [tm_db_len]; exact tm_sz_pos _) kc
    show W _ _ _ _ _ _ _ _ _ _ _ _ _ _ _ (F0 _ _ _ [.ref _])
    refine lv_astore_n hx hb dB_free_5 rfl hl (by decide) rfl (fun ls hl => ?_)
    refine lv_iload_n hx hb dB_free_6 rfl (lv_at hl 3 rfl) ?_
    refine ct_StX (n := 1) hE hI (kB_checkFree hl0 n) gm_B36 gt_B_checkFree gz_B gc_B_checkFree (by decide +kernel) ⟨Nat.le_of_ble_eq_true rfl, Nat.le_of_ble_eq_true rfl⟩ rfl hl.1 rfl (Nat.le_of_ble_eq_true rfl) dB_free_7 ⟨Nat.le_of_ble_eq_true rfl, Nat.le_of_ble_eq_true rfl⟩ (fun v w1 H locs hq hI => ?_) (fun E q ce w1 H locs ht hI hq hv hcl => ?_)
    · obtain ⟨hw, rfl, k, hfk⟩ := hq
      subst w1
      obtain ⟨hk100, hnk⟩ := fk_some hfk
      have er : op_free σ to n = (0, 0, su σ t (lfm k)) := by unfold op_free; rw [hrt, hfk]
      show W _ _ _ _ _ _ _ _ _ _ _ _ _ _ _ (F0 _ _ _ [])
      refine lv_aload_n hx hb dB_free_10 rfl (lv_at hl 0 rfl) ?_
      refine lv_iload_n hx hb dB_free_11 rfl (lv_at hl 3 rfl) ?_
      refine ct_V (n := 1) hE hI (kT_becomeFree (x := n) kT kA (by omega) (by omega)) kT rfl gm_B39 gi_T_becomeFree gs_T_T_becomeFree gz_T gc_T_becomeFree (by decide +kernel) ⟨Nat.le_of_ble_eq_true rfl, Nat.le_of_ble_eq_true rfl⟩ rfl hl.1 rfl (Nat.le_of_ble_eq_true rfl) dB_free_12 ⟨Nat.le_of_ble_eq_true rfl, Nat.le_of_ble_eq_true rfl⟩ (fun v w1 H locs hq hI => ?_)
      obtain ⟨rfl, hw⟩ := hq
      show W _ _ _ _ _ _ _ _ _ _ _ _ _ _ _ (F0 _ _ _ [])
      have hne : f (13 + 2 * t) ≠ f (14 + 2 * t) := h.1.ne (by omega) (by omega) (by omega)
      refine vx_ret (ct_vret hE hI hr hk ⟨by rw [er], rfl, ?_⟩ (by decide) (by decide) dB_free_15)
      rw [er]
      have hdb : tm_db (lfm (k : Int)) [] = [(k : Int)] := by
        rw [tm_db_leaf rfl, tm_lc_free (by show (0 : Int) ≤ (k : Int); omega)]
        rfl
      refine bx.set (cap := cap) h (mp_off.rf _ _) h ht16 (Or.inl rfl) (by rw [hw]; exact ((mp_off.rf _ _).up (by simp) _).up (by simp) _) ⟨⟨upd g 0 n, ?_, ?_, ?_⟩, ?_, kc2, ?_⟩ ?_
      · rw [hw, hdb]; exact mp_up_self ..
      · rw [hw, mp_up_ne _ _ (Ne.symm hne)]; exact mp_up_self ..
      · intro _ i y hy
        rw [hdb] at hy
        have : i = 0 := by
          have := (List.getElem?_eq_some_iff.mp hy).1
          simp at this
          omega
        subst this
        simp at hy
        subst hy
        unfold upd
        rw [if_pos rfl, ci_nat, hnk]
      · rw [hdb]; exact hsz
      · intro y hy
        rw [hdb] at hy
        simp at hy
        omega
      · refine ⟨?_, trivial, by show 1 ≤ 2000; omega, by show 1 ≤ 150; omega⟩
        show (0 ≤ (k : Int) ∧ (k : Int) ≤ 99) ∨ _
        exact Or.inl ⟨by omega, by omega⟩
    · obtain ⟨hw, hE1, hfk⟩ := ht
      subst w1
      have er : op_free σ to n = (1, 0, σ) := by unfold op_free; rw [hrt, hfk]
      exact ct_out hI hout hk hq hv hcl ⟨by rw [er]; simp, by rw [er]; exact hE1, by rw [er]; exact bx.rf h⟩ (by decide) (by decide)
  · obtain ⟨hw, hE1, hrt⟩ := ht
    subst w1
    have er : op_free σ to n = (1, 0, σ) := by unfold op_free; rw [hrt]
    exact ct_out hI hout hk hq hv hcl ⟨by rw [er]; simp, by rw [er]; exact hE1, by rw [er]; exact bx.rf h⟩ (by decide) (by decide)
set_option maxRecDepth 100000 in
set_option maxHeartbeats 1000000 in
theorem kB_apply (hl0 : l.stackTraces = false) (h : iv_B K w f mi σ bc out) (to a b : Int32) : ct_X l n0 D K yB_apply (Cond.code yB_apply cB_apply 5 (some .int)) 9 240 5 2024 [.ref (f 0), .int to, .int a, .int b] w (po_B K w f bc out (op_apply σ to a b)) (th_B K w f bc out ex_1 (op_apply σ to a b)) := by
  have h0 := h.2.1
  obtain ⟨M, hS⟩ := h.S
  refine ct_goX (own := nm_B) (by decide) rfl (Nat.le_of_ble_eq_true rfl) ?_
  intro p e s m below meth c ls hE hI hr hk hout hl
  have hx := hE.1.1.1
  have hb := hE.1.1.2.1
  have hl : lv_has ls 5 [(0, .ref (f 0)), (1, .int to), (2, .int a), (3, .int b)] := hl
  refine lv_aload_n hx hb dB_apply_0 rfl (lv_at hl 0 rfl) ?_
  refine lv_iload_n hx hb dB_apply_1 rfl (lv_at hl 1 rfl) ?_
  refine ct_VX (n := 1) hE hI (kB_register hl0 h to) h0 rfl gm_B32 gi_B_register gs_B_B_register gz_B gc_B_register (by decide +kernel) ⟨Nat.le_of_ble_eq_true rfl, Nat.le_of_ble_eq_true rfl⟩ rfl hl.1 rfl (Nat.le_of_ble_eq_true rfl) dB_apply_2 ⟨Nat.le_of_ble_eq_true rfl, Nat.le_of_ble_eq_true rfl⟩ (fun v w1 H locs hq hI => ?_) (fun E q ce w1 H locs ht hI hq hv hcl => ?_)
  · obtain ⟨hw, t, hrt, rfl⟩ := hq
    subst w1
    obtain ⟨ht16, -⟩ := rk_some hrt
    show W _ _ _ _ _ _ _ _ _ _ _ _ _ _ _ (F0 _ _ _ [.ref _])
    refine lv_astore hx hb dB_apply_5 hl (by decide) rfl (fun ls hl => ?_)
    refine lv_aload hx hb dB_apply_7 (lv_at hl 0 rfl) ?_
    refine lv_aload_n hx hb dB_apply_9 rfl (lv_at hl 1 rfl) ?_
    refine mp_get hE.1 hI h0 rfl gx_B 1 (by decide) (List.mem_cons_of_mem _ gf_B21) rfl dB_apply_10 ?_
    refine lv_aload_n hx hb dB_apply_13 rfl (lv_at hl 1 rfl) ?_
    refine lv_iload_n hx hb dB_apply_14 rfl (lv_at hl 3 rfl) ?_
    refine ct_VX (n := 1) hE hI (kB_register hl0 h a) h0 rfl gm_B32 gi_B_register gs_B_B_register gz_B gc_B_register (by decide +kernel) ⟨Nat.le_of_ble_eq_true rfl, Nat.le_of_ble_eq_true rfl⟩ rfl hl.1 rfl (Nat.le_of_ble_eq_true rfl) dB_apply_15 ⟨Nat.le_of_ble_eq_true rfl, Nat.le_of_ble_eq_true rfl⟩ (fun v w1 H locs hq hI => ?_) (fun E q ce w1 H locs ht hI hq hv hcl => ?_)
    · obtain ⟨hw, x, hrx, rfl⟩ := hq
      subst w1
      obtain ⟨hx16, -⟩ := rk_some hrx
      show W _ _ _ _ _ _ _ _ _ _ _ _ _ _ _ (F0 _ _ _ [.ref _, .ref _, .ref _])
      refine lv_aload_n hx hb dB_apply_18 rfl (lv_at hl 1 rfl) ?_
      refine lv_iload_n hx hb dB_apply_19 rfl (lv_at hl 4 rfl) ?_
      refine ct_VX (n := 1) hE hI (kB_register hl0 h b) h0 rfl gm_B32 gi_B_register gs_B_B_register gz_B gc_B_register (by decide +kernel) ⟨Nat.le_of_ble_eq_true rfl, Nat.le_of_ble_eq_true rfl⟩ rfl hl.1 rfl (Nat.le_of_ble_eq_true rfl) dB_apply_20 ⟨Nat.le_of_ble_eq_true rfl, Nat.le_of_ble_eq_true rfl⟩ (fun v w1 H locs hq hI => ?_) (fun E q ce w1 H locs ht hI hq hv hcl => ?_)
      · obtain ⟨hw, y, hry, rfl⟩ := hq
        subst w1
        obtain ⟨hy16, -⟩ := rk_some hry
        show W _ _ _ _ _ _ _ _ _ _ _ _ _ _ _ (F0 _ _ _ [.ref _, .ref _, .ref _, .ref _])
        obtain ⟨cx, hRx⟩ := h.reg hx16
        obtain ⟨cy, hRy⟩ := h.reg hy16
        have hm := h.2.2.2.1.1
        have hsc : tm_sc (.append (σ x) (σ y)) [] := ⟨(h.ok hx16).1, (h.ok hy16).1⟩
        have er : op_apply σ to a b = ck 2 σ t (.append (σ x) (σ y)) := by unfold op_apply; rw [hrt, hrx, hry]
        refine ct_VX (n := 2) hE hI (kS_join hl0 h.1 hm hS (i := x) (j := y) (by omega) (by omega) (by omega) (by omega) hRx hRy) hS.1 rfl gm_B42 gi_S_join gs_S_S_join gz_S gc_S_join (by decide +kernel) ⟨Nat.le_of_ble_eq_true rfl, Nat.le_of_ble_eq_true rfl⟩ rfl hl.1 rfl (Nat.le_of_ble_eq_true rfl) dB_apply_23 ⟨Nat.le_of_ble_eq_true rfl, Nat.le_of_ble_eq_true rfl⟩ (fun v w1 H locs hq hI => ?_) (fun E q ce w1 H locs ht hI hq hv hcl => ?_)
        · obtain ⟨rfl, hnb, ho, hS1⟩ := hq
          rw [← tm_db_app] at hnb hS1
          rw [tm_bad] at hnb
          show W _ _ _ _ _ _ _ _ _ _ _ _ _ _ _ (F0 _ _ _ [.ref _, .ref _])
          cases hu : tm_chk (.append (σ x) (σ y)) with
          | none => exact absurd hu hnb
          | some u =>
            obtain ⟨hoG, h1, hRm, hok⟩ := h.made hsc hu ho hS1
            obtain ⟨ct, hRt⟩ := h1.reg ht16
            obtain ⟨_, kT, -⟩ := hRt.out
            refine ct_V (n := 1) hE hI (kT_become hRt.V hRm) kT rfl gm_B46 gi_T_become gs_T_T_become gz_T gc_T_become (by decide +kernel) ⟨Nat.le_of_ble_eq_true rfl, Nat.le_of_ble_eq_true rfl⟩ rfl hl.1 rfl (Nat.le_of_ble_eq_true rfl) dB_apply_26 ⟨Nat.le_of_ble_eq_true rfl, Nat.le_of_ble_eq_true rfl⟩ (fun v w2 H locs hq hI => ?_)
            obtain ⟨rfl, ar', cap', har, -, ho2, hR2⟩ := hq
            show W _ _ _ _ _ _ _ _ _ _ _ _ _ _ _ (F0 _ _ _ [.int _])
            rw [tm_db_len]
            refine vx_ret (ct_iret hE hI hr hk ⟨by rw [er, ck_some hu], by rw [er, ck_some hu], ?_⟩ (by decide) (by decide) dB_apply_29)
            rw [er, ck_some hu]
            exact bx.set h hoG h1 ht16 har ho2 hR2 hok
        · obtain ⟨hE1, hbd, ho, M2, hS2⟩ := ht
          rw [← tm_db_app, tm_bad] at hbd
          exact ct_out hI hout hk hq hv hcl ⟨by rw [er, ck_none hbd]; simp, by rw [er, ck_none hbd]; exact hE1, by rw [er, ck_none hbd]; exact bx.ws h (fp_G_S hm ho) (pt_G.of h.1 h.2.2.2.1 ho hS2)⟩ (by decide) (by decide)
      · obtain ⟨hw, hE1, hry⟩ := ht
        subst w1
        have er : op_apply σ to a b = (1, 0, σ) := by unfold op_apply; rw [hrt, hrx, hry]
        exact ct_out hI hout hk hq hv hcl ⟨by rw [er]; simp, by rw [er]; exact hE1, by rw [er]; exact bx.rf h⟩ (by decide) (by decide)
    · obtain ⟨hw, hE1, hrx⟩ := ht
      subst w1
      have er : op_apply σ to a b = (1, 0, σ) := by unfold op_apply; rw [hrt, hrx]
      exact ct_out hI hout hk hq hv hcl ⟨by rw [er]; simp, by rw [er]; exact hE1, by rw [er]; exact bx.rf h⟩ (by decide) (by decide)
  · obtain ⟨hw, hE1, hrt⟩ := ht
    subst w1
    have er : op_apply σ to a b = (1, 0, σ) := by unfold op_apply; rw [hrt]
    exact ct_out hI hout hk hq hv hcl ⟨by rw [er]; simp, by rw [er]; exact hE1, by rw [er]; exact bx.rf h⟩ (by decide) (by decide)
end KB2
end
section
/-! the face: bind, put, open -/
def op_open (σ : Nat → Std.Format) (to a b : Int32) : oR := match rk to, rk a, rk b with
  | some t, some x, some y => (match σ x with
    | .tag j c => ck 3 σ t (tm_sub (-1 - (j : Int)) (σ y) c)
    | _ => (2, 0, σ))
  | _, _, _ => (1, 0, σ)
theorem op_open_f {σ : Nat → Std.Format} {to a b : Int32} {t x y j : Nat} {c : Std.Format} (h1 : rk to = some t) (h2 : rk a = some x) (h3 : rk b = some y) (h4 : σ x = .tag j c) : op_open σ to a b = ck 3 σ t (tm_sub (-1 - (j : Int)) (σ y) c) := by
  unfold op_open
  rw [h1, h2, h3]
  show (match σ x with
    | .tag j c => ck 3 σ t (tm_sub (-1 - (j : Int)) (σ y) c)
    | _ => (2, 0, σ)) = _
  rw [h4]
theorem op_open_n {σ : Nat → Std.Format} {to a b : Int32} {t x y : Nat} (h1 : rk to = some t) (h2 : rk a = some x) (h3 : rk b = some y) (h4 : ∀ j c, σ x ≠ .tag j c) : op_open σ to a b = (2, 0, σ) := by
  unfold op_open
  rw [h1, h2, h3]
  show (match σ x with
    | .tag j c => ck 3 σ t (tm_sub (-1 - (j : Int)) (σ y) c)
    | _ => (2, 0, σ)) = _
  split
  · rename_i j c e
    exact absurd e (h4 j c)
  · rfl
theorem tm_hd (t : Std.Format) : ∃ x, (tm_db t [])[0]? = some x ∧ (x = -2 ↔ ∃ j c, t = .tag j c) ∧ (x = -1 ↔ ∃ a b, t = .append a b) := by
  rcases tm_cases t with h | ⟨j, a, rfl⟩ | ⟨a, b, rfl⟩
  · have := tm_lc_nn [] (tm_val t)
    refine ⟨tm_lc [] (tm_val t), by rw [tm_db_leaf h]; rfl, ⟨fun e => by omega, fun ⟨j, c, e⟩ => by subst e; cases h⟩, ⟨fun e => by omega, fun ⟨a, b, e⟩ => by subst e; cases h⟩⟩
  · exact ⟨-2, by rw [tm_db_fun]; rfl, ⟨fun _ => ⟨j, a, rfl⟩, fun _ => rfl⟩, ⟨fun e => by omega, fun ⟨a, b, e⟩ => by cases e⟩⟩
  · exact ⟨-1, by rw [tm_db_app]; rfl, ⟨fun e => by omega, fun ⟨j, c, e⟩ => by cases e⟩, ⟨fun _ => ⟨a, b, rfl⟩, fun _ => rfl⟩⟩
theorem tm_fl_one {p q : Nat} {g : Int → Nat → List Int} (hg : ∀ x c, (g x c).length = 1) (L : List Int) : ∀ s, (tm_fl p q g L s).length = L.length := by
  induction L with
  | nil => intro s; rfl
  | cons x L ih =>
    intro s
    rw [tm_fl_cons, List.length_append, hg, ih, List.length_cons, Nat.add_comm]
/-- binding, filling, by rows -/
theorem tm_bind_row {a : Std.Format} (hok : tm_ok a) {n : Nat} (hn : n < 100) : (-2 :: tm_fl 0 1 (tm_gb (n : Int)) (tm_db a []) ([], 0)) = tm_db (.tag 5000 (tm_sub n (lfm (-5001)) a)) [] ∧ tm_sc (.tag 5000 (tm_sub n (lfm (-5001)) a)) [] := by
  obtain ⟨h1, h2, h3, h4⟩ := hok
  have hz : 5000 ∉ tm_fn a := fun hm => by
    have := tm_cn_fn a 0 h2 5000 hm
    have := tm_nf_sz a
    omega
  refine ⟨?_, ?_⟩
  · rw [tm_db_fun]
    exact congrArg (List.cons (-2)) (tm_close (n := (n : Int)) (by omega) (by omega) 5000 a [] [] (by show 0 + tm_dp a ≤ 151; omega) h1 (by simp) hz)
  · show tm_sc (tm_sub n (lfm (-5001)) a) [5000]
    refine tm_sub_sc n (lfm (-5001)) [5000] ?_ [] (fun v hv => by cases hv) a [] h1
    exact Or.inr ⟨by decide, by decide⟩
theorem tm_open_row {j : Nat} {c b : Std.Format} (hc : tm_ok (.tag j c)) (hb : tm_ok b) : pt_fill ((tm_db (.tag j c) []).drop 1) (tm_db b []) ([], 0) = tm_db (tm_sub (-1 - (j : Int)) b c) [] ∧ tm_sc (tm_sub (-1 - (j : Int)) b c) [] := by
  obtain ⟨h1, h2, h3, h4⟩ := hc
  obtain ⟨b1, b2, b3, b4⟩ := hb
  have hj : j = 0 := h2.1
  have hcn : tm_cn c 1 := by have := h2.2; exact this
  rw [tm_dp_f] at h4
  refine ⟨?_, ?_⟩
  · rw [tm_db_fun]
    show tm_fl 0 1 (tm_gf (fun k => tm_fl 0 1 (tm_gr k) (tm_db b []) ([], 0))) (tm_db c [j]) ([], 0) = _
    have := tm_fill (fun k => tm_fl 0 1 (tm_gr k) (tm_db b []) ([], 0)) b j [] (fun F hF => ?_) c [] [] (by show 0 + _ ≤ 151; omega) h1 (by simp) (by simp) (fun n hn => ⟨fun e => ?_, by simp⟩)
    · exact this
    · exact tm_raise F.length b F [] rfl (by simp) [] [] (by show 0 + _ ≤ 151; omega) b1
    · have := tm_cn_fn c 1 hcn n hn
      omega
  · refine tm_sub_sc (-1 - (j : Int)) b [] b1 [j] (fun v hv => Or.inr ?_) c [] h1
    have : v = j := by simpa using hv
    rw [this]
section KB3
variable {l : Launch} {n0 : Nat} {D : va_G} {K : Nat → ClassId} {w : mp_W} {f : Nat → Nat} {mi bc : Nat} {σ : Nat → Std.Format} {out : List Int}
set_option maxRecDepth 100000 in
set_option maxHeartbeats 1000000 in
theorem kB_bind (hl0 : l.stackTraces = false) (h : iv_B K w f mi σ bc out) (to a n : Int32) : ct_X l n0 D K yB_bind (Cond.code yB_bind cB_bind 6 (some .int)) 9 240 5 2024 [.ref (f 0), .int to, .int a, .int n] w (po_B K w f bc out (op_bind σ to a n)) (th_B K w f bc out ex_1 (op_bind σ to a n)) := by
  have h0 := h.2.1
  obtain ⟨M, hS⟩ := h.S
  refine ct_goX (own := nm_B) (by decide) rfl (Nat.le_of_ble_eq_true rfl) ?_
  intro p e s m below meth c ls hE hI hr hk hout hl
  have hx := hE.1.1.1
  have hb := hE.1.1.2.1
  have hl : lv_has ls 6 [(0, .ref (f 0)), (1, .int to), (2, .int a), (3, .int n)] := hl
  refine lv_aload_n hx hb dB_bind_0 rfl (lv_at hl 0 rfl) ?_
  refine lv_iload_n hx hb dB_bind_1 rfl (lv_at hl 1 rfl) ?_
  refine ct_VX (n := 1) hE hI (kB_register hl0 h to) h0 rfl gm_B32 gi_B_register gs_B_B_register gz_B gc_B_register (by decide +kernel) ⟨Nat.le_of_ble_eq_true rfl, Nat.le_of_ble_eq_true rfl⟩ rfl hl.1 rfl (Nat.le_of_ble_eq_true rfl) dB_bind_2 ⟨Nat.le_of_ble_eq_true rfl, Nat.le_of_ble_eq_true rfl⟩ (fun v w1 H locs hq hI => ?_) (fun E q ce w1 H locs ht hI hq hv hcl => ?_)
  · obtain ⟨hw, t, hrt, rfl⟩ := hq
    subst w1
    obtain ⟨ht16, -⟩ := rk_some hrt
    show W _ _ _ _ _ _ _ _ _ _ _ _ _ _ _ (F0 _ _ _ [.ref _])
    refine lv_astore hx hb dB_bind_5 hl (by decide) rfl (fun ls hl => ?_)
    refine lv_aload_n hx hb dB_bind_7 rfl (lv_at hl 1 rfl) ?_
    refine lv_iload_n hx hb dB_bind_8 rfl (lv_at hl 3 rfl) ?_
    refine ct_VX (n := 1) hE hI (kB_register hl0 h a) h0 rfl gm_B32 gi_B_register gs_B_B_register gz_B gc_B_register (by decide +kernel) ⟨Nat.le_of_ble_eq_true rfl, Nat.le_of_ble_eq_true rfl⟩ rfl hl.1 rfl (Nat.le_of_ble_eq_true rfl) dB_bind_9 ⟨Nat.le_of_ble_eq_true rfl, Nat.le_of_ble_eq_true rfl⟩ (fun v w1 H locs hq hI => ?_) (fun E q ce w1 H locs ht hI hq hv hcl => ?_)
    · obtain ⟨hw, x, hrx, rfl⟩ := hq
      subst w1
      obtain ⟨hx16, -⟩ := rk_some hrx
      show W _ _ _ _ _ _ _ _ _ _ _ _ _ _ _ (F0 _ _ _ [.ref _])
      refine lv_astore hx hb dB_bind_12 hl (by decide) rfl (fun ls hl => ?_)
      refine lv_iload_n hx hb dB_bind_14 rfl (lv_at hl 5 rfl) ?_
      refine ct_StX (n := 1) hE hI (kB_checkFree hl0 n) gm_B36 gt_B_checkFree gz_B gc_B_checkFree (by decide +kernel) ⟨Nat.le_of_ble_eq_true rfl, Nat.le_of_ble_eq_true rfl⟩ rfl hl.1 rfl (Nat.le_of_ble_eq_true rfl) dB_bind_15 ⟨Nat.le_of_ble_eq_true rfl, Nat.le_of_ble_eq_true rfl⟩ (fun v w1 H locs hq hI => ?_) (fun E q ce w1 H locs ht hI hq hv hcl => ?_)
      · obtain ⟨hw, rfl, k, hfk⟩ := hq
        subst w1
        obtain ⟨hk100, hnk⟩ := fk_some hfk
        obtain ⟨cx, hRx⟩ := h.reg hx16
        have hm := h.2.2.2.1.1
        obtain ⟨erow, hsc⟩ := tm_bind_row (h.ok hx16) hk100
        have er : op_bind σ to a n = ck 2 σ t (.tag 5000 (tm_sub k (lfm (-5001)) (σ x))) := by unfold op_bind; rw [hrt, hrx, hfk]
        have hn' : n = ci_i (k : Int) := by rw [hnk, ci_nat]
        rw [hn'] at hl
        show W _ _ _ _ _ _ _ _ _ _ _ _ _ _ _ (F0 _ _ _ [])
        refine lv_aload hx hb dB_bind_18 (lv_at hl 1 rfl) ?_
        refine lv_aload_n hx hb dB_bind_20 rfl (lv_at hl 2 rfl) ?_
        refine mp_get hE.1 hI h0 rfl gx_B 1 (by decide) (List.mem_cons_of_mem _ gf_B21) rfl dB_bind_21 ?_
        refine lv_aload hx hb dB_bind_24 (lv_at hl 0 rfl) ?_
        refine lv_iload_n hx hb dB_bind_26 rfl (lv_at hl 5 rfl) ?_
        refine ct_VX (n := 2) hE hI (kS_close hl0 h.1 hm hS (i := x) (n := (k : Int)) (by omega) (by omega) hRx (by omega) (by omega) (by rw [erow]; intro y hy; have := tm_db_bd _ _ hsc y hy; rw [← tm_db_len _ [], ← erow] at this; have hl1 := hRx.2.1; have hl2 := hRx.2.2.1; rw [List.length_cons, tm_fl_one (fun _ _ => rfl)] at this; simp at this; omega)) hS.1 rfl gm_B50 gi_S_close gs_S_S_close gz_S gc_S_close (by decide +kernel) ⟨Nat.le_of_ble_eq_true rfl, Nat.le_of_ble_eq_true rfl⟩ rfl hl.1 rfl (Nat.le_of_ble_eq_true rfl) dB_bind_27 ⟨Nat.le_of_ble_eq_true rfl, Nat.le_of_ble_eq_true rfl⟩ (fun v w1 H locs hq hI => ?_) (fun E q ce w1 H locs ht hI hq hv hcl => ?_)
        · obtain ⟨rfl, hnb, ho, hS1⟩ := hq
          rw [erow] at hnb hS1
          rw [tm_bad] at hnb
          show W _ _ _ _ _ _ _ _ _ _ _ _ _ _ _ (F0 _ _ _ [.ref _, .ref _])
          cases hu : tm_chk (.tag 5000 (tm_sub k (lfm (-5001)) (σ x))) with
          | none => exact absurd hu hnb
          | some u =>
            obtain ⟨hoG, h1, hRm, hok⟩ := h.made hsc hu ho hS1
            obtain ⟨ct, hRt⟩ := h1.reg ht16
            obtain ⟨_, kT, -⟩ := hRt.out
            refine ct_V (n := 1) hE hI (kT_become hRt.V hRm) kT rfl gm_B46 gi_T_become gs_T_T_become gz_T gc_T_become (by decide +kernel) ⟨Nat.le_of_ble_eq_true rfl, Nat.le_of_ble_eq_true rfl⟩ rfl hl.1 rfl (Nat.le_of_ble_eq_true rfl) dB_bind_30 ⟨Nat.le_of_ble_eq_true rfl, Nat.le_of_ble_eq_true rfl⟩ (fun v w2 H locs hq hI => ?_)
            obtain ⟨rfl, ar', cap', har, -, ho2, hR2⟩ := hq
            show W _ _ _ _ _ _ _ _ _ _ _ _ _ _ _ (F0 _ _ _ [.int _])
            rw [tm_db_len]
            refine vx_ret (ct_iret hE hI hr hk ⟨by rw [er, ck_some hu], by rw [er, ck_some hu], ?_⟩ (by decide) (by decide) dB_bind_33)
            rw [er, ck_some hu]
            exact bx.set h hoG h1 ht16 har ho2 hR2 hok
        · obtain ⟨hE1, hbd, ho, M2, hS2⟩ := ht
          rw [erow, tm_bad] at hbd
          exact ct_out hI hout hk hq hv hcl ⟨by rw [er, ck_none hbd]; simp, by rw [er, ck_none hbd]; exact hE1, by rw [er, ck_none hbd]; exact bx.ws h (fp_G_S hm ho) (pt_G.of h.1 h.2.2.2.1 ho hS2)⟩ (by decide) (by decide)
      · obtain ⟨hw, hE1, hfk⟩ := ht
        subst w1
        have er : op_bind σ to a n = (1, 0, σ) := by unfold op_bind; rw [hrt, hrx, hfk]
        exact ct_out hI hout hk hq hv hcl ⟨by rw [er]; simp, by rw [er]; exact hE1, by rw [er]; exact bx.rf h⟩ (Nat.le_of_ble_eq_true rfl) (Nat.le_of_ble_eq_true rfl)
    · obtain ⟨hw, hE1, hrx⟩ := ht
      subst w1
      have er : op_bind σ to a n = (1, 0, σ) := by unfold op_bind; rw [hrt, hrx]
      exact ct_out hI hout hk hq hv hcl ⟨by rw [er]; simp, by rw [er]; exact hE1, by rw [er]; exact bx.rf h⟩ (Nat.le_of_ble_eq_true rfl) (Nat.le_of_ble_eq_true rfl)
  · obtain ⟨hw, hE1, hrt⟩ := ht
    subst w1
    have er : op_bind σ to a n = (1, 0, σ) := by unfold op_bind; rw [hrt]
    exact ct_out hI hout hk hq hv hcl ⟨by rw [er]; simp, by rw [er]; exact hE1, by rw [er]; exact bx.rf h⟩ (Nat.le_of_ble_eq_true rfl) (Nat.le_of_ble_eq_true rfl)
set_option maxRecDepth 100000 in
set_option maxHeartbeats 1000000 in
theorem kB_put (hl0 : l.stackTraces = false) (h : iv_B K w f mi σ bc out) (to a n b : Int32) : ct_X l n0 D K yB_put (Cond.code yB_put cB_put 7 (some .int)) 9 240 6 2030 [.ref (f 0), .int to, .int a, .int n, .int b] w (po_B K w f bc out (op_put σ to a n b)) (th_B K w f bc out ex_1 (op_put σ to a n b)) := by
  have h0 := h.2.1
  obtain ⟨M, hS⟩ := h.S
  refine ct_goX (own := nm_B) (by decide) rfl (Nat.le_of_ble_eq_true rfl) ?_
  intro p e s m below meth c ls hE hI hr hk hout hl
  have hx := hE.1.1.1
  have hb := hE.1.1.2.1
  have hl : lv_has ls 7 [(0, .ref (f 0)), (1, .int to), (2, .int a), (3, .int n), (4, .int b)] := hl
  refine lv_aload_n hx hb dB_put_0 rfl (lv_at hl 0 rfl) ?_
  refine lv_iload_n hx hb dB_put_1 rfl (lv_at hl 1 rfl) ?_
  refine ct_VX (n := 1) hE hI (kB_register hl0 h to) h0 rfl gm_B32 gi_B_register gs_B_B_register gz_B gc_B_register (by decide +kernel) ⟨Nat.le_of_ble_eq_true rfl, Nat.le_of_ble_eq_true rfl⟩ rfl hl.1 rfl (Nat.le_of_ble_eq_true rfl) dB_put_2 ⟨Nat.le_of_ble_eq_true rfl, Nat.le_of_ble_eq_true rfl⟩ (fun v w1 H locs hq hI => ?_) (fun E q ce w1 H locs ht hI hq hv hcl => ?_)
  · obtain ⟨hw, t, hrt, rfl⟩ := hq
    subst w1
    obtain ⟨ht16, -⟩ := rk_some hrt
    show W _ _ _ _ _ _ _ _ _ _ _ _ _ _ _ (F0 _ _ _ [.ref _])
    refine lv_astore hx hb dB_put_5 hl (by decide) rfl (fun ls hl => ?_)
    refine lv_aload_n hx hb dB_put_7 rfl (lv_at hl 1 rfl) ?_
    refine lv_iload_n hx hb dB_put_8 rfl (lv_at hl 3 rfl) ?_
    refine ct_VX (n := 1) hE hI (kB_register hl0 h a) h0 rfl gm_B32 gi_B_register gs_B_B_register gz_B gc_B_register (by decide +kernel) ⟨Nat.le_of_ble_eq_true rfl, Nat.le_of_ble_eq_true rfl⟩ rfl hl.1 rfl (Nat.le_of_ble_eq_true rfl) dB_put_9 ⟨Nat.le_of_ble_eq_true rfl, Nat.le_of_ble_eq_true rfl⟩ (fun v w1 H locs hq hI => ?_) (fun E q ce w1 H locs ht hI hq hv hcl => ?_)
    · obtain ⟨hw, x, hrx, rfl⟩ := hq
      subst w1
      obtain ⟨hx16, -⟩ := rk_some hrx
      show W _ _ _ _ _ _ _ _ _ _ _ _ _ _ _ (F0 _ _ _ [.ref _])
      refine lv_astore hx hb dB_put_12 hl (by decide) rfl (fun ls hl => ?_)
      refine lv_iload_n hx hb dB_put_14 rfl (lv_at hl 5 rfl) ?_
      refine ct_StX (n := 1) hE hI (kB_checkFree hl0 n) gm_B36 gt_B_checkFree gz_B gc_B_checkFree (by decide +kernel) ⟨Nat.le_of_ble_eq_true rfl, Nat.le_of_ble_eq_true rfl⟩ rfl hl.1 rfl (Nat.le_of_ble_eq_true rfl) dB_put_15 ⟨Nat.le_of_ble_eq_true rfl, Nat.le_of_ble_eq_true rfl⟩ (fun v w1 H locs hq hI => ?_) (fun E q ce w1 H locs ht hI hq hv hcl => ?_)
      · obtain ⟨hw, rfl, k, hfk⟩ := hq
        subst w1
        obtain ⟨hk100, hnk⟩ := fk_some hfk
        have hn' : n = ci_i (k : Int) := by rw [hnk, ci_nat]
        rw [hn'] at hl
        show W _ _ _ _ _ _ _ _ _ _ _ _ _ _ _ (F0 _ _ _ [])
        refine lv_aload hx hb dB_put_18 (lv_at hl 1 rfl) ?_
        refine lv_aload_n hx hb dB_put_20 rfl (lv_at hl 2 rfl) ?_
        refine mp_get hE.1 hI h0 rfl gx_B 1 (by decide) (List.mem_cons_of_mem _ gf_B21) rfl dB_put_21 ?_
        refine lv_aload hx hb dB_put_24 (lv_at hl 0 rfl) ?_
        refine lv_iload_n hx hb dB_put_26 rfl (lv_at hl 5 rfl) ?_
        refine lv_aload_n hx hb dB_put_27 rfl (lv_at hl 2 rfl) ?_
        refine lv_iload hx hb dB_put_28 (lv_at hl 6 rfl) ?_
        refine ct_VX (n := 1) hE hI (kB_register hl0 h b) h0 rfl gm_B32 gi_B_register gs_B_B_register gz_B gc_B_register (by decide +kernel) ⟨Nat.le_of_ble_eq_true rfl, Nat.le_of_ble_eq_true rfl⟩ rfl hl.1 rfl (Nat.le_of_ble_eq_true rfl) dB_put_30 ⟨Nat.le_of_ble_eq_true rfl, Nat.le_of_ble_eq_true rfl⟩ (fun v w1 H locs hq hI => ?_) (fun E q ce w1 H locs ht hI hq hv hcl => ?_)
        · obtain ⟨hw, y, hry, rfl⟩ := hq
          subst w1
          obtain ⟨hy16, -⟩ := rk_some hry
          show W _ _ _ _ _ _ _ _ _ _ _ _ _ _ _ (F0 _ _ _ [.ref _, .int _, .ref _, .ref _, .ref _])
          obtain ⟨cx, hRx⟩ := h.reg hx16
          obtain ⟨cy, hRy⟩ := h.reg hy16
          have hm := h.2.2.2.1.1
          have okx := h.ok hx16
          have oky := h.ok hy16
          have erow := tm_putdb (n := (k : Int)) (by omega) (by omega) (σ y) oky.1 (σ x) [] okx.1
          have hsc : tm_sc (tm_sub k (σ y) (σ x)) [] := tm_sub_sc k (σ y) [] oky.1 [] (fun v hv => by cases hv) (σ x) [] okx.1
          have er : op_put σ to a n b = ck 2 σ t (tm_sub k (σ y) (σ x)) := by unfold op_put; rw [hrt, hrx, hfk, hry]
          refine ct_VX (n := 3) hE hI (kS_replace hl0 h.1 hm hS (i := x) (j := y) (n := (k : Int)) (by omega) (by omega) (by omega) (by omega) hRx hRy (by omega) (by omega) (by intro z hz; rw [List.mem_flatMap] at hz; obtain ⟨r, hr1, hr2⟩ := hz; split at hr2; exact tm_db_b oky.1 oky.2.2.1 z hr2; simp at hr2; rw [hr2]; exact tm_db_b okx.1 okx.2.2.1 r hr1)) hS.1 rfl gm_B54 gi_S_replace gs_S_S_replace gz_S gc_S_replace (by decide +kernel) ⟨Nat.le_of_ble_eq_true rfl, Nat.le_of_ble_eq_true rfl⟩ rfl hl.1 rfl (Nat.le_of_ble_eq_true rfl) dB_put_33 ⟨Nat.le_of_ble_eq_true rfl, Nat.le_of_ble_eq_true rfl⟩ (fun v w1 H locs hq hI => ?_) (fun E q ce w1 H locs ht hI hq hv hcl => ?_)
          · obtain ⟨rfl, hnb, ho, hS1⟩ := hq
            rw [← erow] at hnb hS1
            rw [tm_bad] at hnb
            show W _ _ _ _ _ _ _ _ _ _ _ _ _ _ _ (F0 _ _ _ [.ref _, .ref _])
            cases hu : tm_chk (tm_sub k (σ y) (σ x)) with
            | none => exact absurd hu hnb
            | some u =>
              obtain ⟨hoG, h1, hRm, hok⟩ := h.made hsc hu ho hS1
              obtain ⟨ct, hRt⟩ := h1.reg ht16
              obtain ⟨_, kT, -⟩ := hRt.out
              refine ct_V (n := 1) hE hI (kT_become hRt.V hRm) kT rfl gm_B46 gi_T_become gs_T_T_become gz_T gc_T_become (by decide +kernel) ⟨Nat.le_of_ble_eq_true rfl, Nat.le_of_ble_eq_true rfl⟩ rfl hl.1 rfl (Nat.le_of_ble_eq_true rfl) dB_put_36 ⟨Nat.le_of_ble_eq_true rfl, Nat.le_of_ble_eq_true rfl⟩ (fun v w2 H locs hq hI => ?_)
              obtain ⟨rfl, ar', cap', har, -, ho2, hR2⟩ := hq
              show W _ _ _ _ _ _ _ _ _ _ _ _ _ _ _ (F0 _ _ _ [.int _])
              rw [tm_db_len]
              refine vx_ret (ct_iret hE hI hr hk ⟨by rw [er, ck_some hu], by rw [er, ck_some hu], ?_⟩ (by decide) (by decide) dB_put_39)
              rw [er, ck_some hu]
              exact bx.set h hoG h1 ht16 har ho2 hR2 hok
          · obtain ⟨hE1, hbd, ho, M2, hS2⟩ := ht
            rw [← erow, tm_bad] at hbd
            exact ct_out hI hout hk hq hv hcl ⟨by rw [er, ck_none hbd]; simp, by rw [er, ck_none hbd]; exact hE1, by rw [er, ck_none hbd]; exact bx.ws h (fp_G_S hm ho) (pt_G.of h.1 h.2.2.2.1 ho hS2)⟩ (by decide) (by decide)
        · obtain ⟨hw, hE1, hry⟩ := ht
          subst w1
          have er : op_put σ to a n b = (1, 0, σ) := by unfold op_put; rw [hrt, hrx, hfk, hry]
          exact ct_out hI hout hk hq hv hcl ⟨by rw [er]; simp, by rw [er]; exact hE1, by rw [er]; exact bx.rf h⟩ (Nat.le_of_ble_eq_true rfl) (Nat.le_of_ble_eq_true rfl)
      · obtain ⟨hw, hE1, hfk⟩ := ht
        subst w1
        have er : op_put σ to a n b = (1, 0, σ) := by unfold op_put; rw [hrt, hrx, hfk]
        exact ct_out hI hout hk hq hv hcl ⟨by rw [er]; simp, by rw [er]; exact hE1, by rw [er]; exact bx.rf h⟩ (Nat.le_of_ble_eq_true rfl) (Nat.le_of_ble_eq_true rfl)
    · obtain ⟨hw, hE1, hrx⟩ := ht
      subst w1
      have er : op_put σ to a n b = (1, 0, σ) := by unfold op_put; rw [hrt, hrx]
      exact ct_out hI hout hk hq hv hcl ⟨by rw [er]; simp, by rw [er]; exact hE1, by rw [er]; exact bx.rf h⟩ (Nat.le_of_ble_eq_true rfl) (Nat.le_of_ble_eq_true rfl)
  · obtain ⟨hw, hE1, hrt⟩ := ht
    subst w1
    have er : op_put σ to a n b = (1, 0, σ) := by unfold op_put; rw [hrt]
    exact ct_out hI hout hk hq hv hcl ⟨by rw [er]; simp, by rw [er]; exact hE1, by rw [er]; exact bx.rf h⟩ (Nat.le_of_ble_eq_true rfl) (Nat.le_of_ble_eq_true rfl)
set_option maxRecDepth 100000 in
set_option maxHeartbeats 1000000 in
theorem kB_open (hl0 : l.stackTraces = false) (h : iv_B K w f mi σ bc out) (to a b : Int32) : ct_X l n0 D K yB_open (Cond.code yB_open cB_open 7 (some .int)) 9 240 5 2024 [.ref (f 0), .int to, .int a, .int b] w (po_B K w f bc out (op_open σ to a b)) (th_B K w f bc out ex_2 (op_open σ to a b)) := by
  have h0 := h.2.1
  obtain ⟨M, hS⟩ := h.S
  refine ct_goX (own := nm_B) (by decide) rfl (Nat.le_of_ble_eq_true rfl) ?_
  intro p e s m below meth c ls hE hI hr hk hout hl
  have hx := hE.1.1.1
  have hb := hE.1.1.2.1
  have hl : lv_has ls 7 [(0, .ref (f 0)), (1, .int to), (2, .int a), (3, .int b)] := hl
  refine lv_aload_n hx hb dB_open_0 rfl (lv_at hl 0 rfl) ?_
  refine lv_iload_n hx hb dB_open_1 rfl (lv_at hl 1 rfl) ?_
  refine ct_VX (n := 1) hE hI (kB_register hl0 h to) h0 rfl gm_B32 gi_B_register gs_B_B_register gz_B gc_B_register (by decide +kernel) ⟨Nat.le_of_ble_eq_true rfl, Nat.le_of_ble_eq_true rfl⟩ rfl hl.1 rfl (Nat.le_of_ble_eq_true rfl) dB_open_2 ⟨Nat.le_of_ble_eq_true rfl, Nat.le_of_ble_eq_true rfl⟩ (fun v w1 H locs hq hI => ?_) (fun E q ce w1 H locs ht hI hq hv hcl => ?_)
  · obtain ⟨hw, t, hrt, rfl⟩ := hq
    subst w1
    obtain ⟨ht16, -⟩ := rk_some hrt
    show W _ _ _ _ _ _ _ _ _ _ _ _ _ _ _ (F0 _ _ _ [.ref _])
    refine lv_astore hx hb dB_open_5 hl (by decide) rfl (fun ls hl => ?_)
    refine lv_aload_n hx hb dB_open_7 rfl (lv_at hl 1 rfl) ?_
    refine lv_iload_n hx hb dB_open_8 rfl (lv_at hl 3 rfl) ?_
    refine ct_VX (n := 1) hE hI (kB_register hl0 h a) h0 rfl gm_B32 gi_B_register gs_B_B_register gz_B gc_B_register (by decide +kernel) ⟨Nat.le_of_ble_eq_true rfl, Nat.le_of_ble_eq_true rfl⟩ rfl hl.1 rfl (Nat.le_of_ble_eq_true rfl) dB_open_9 ⟨Nat.le_of_ble_eq_true rfl, Nat.le_of_ble_eq_true rfl⟩ (fun v w1 H locs hq hI => ?_) (fun E q ce w1 H locs ht hI hq hv hcl => ?_)
    · obtain ⟨hw, x, hrx, rfl⟩ := hq
      subst w1
      obtain ⟨hx16, -⟩ := rk_some hrx
      show W _ _ _ _ _ _ _ _ _ _ _ _ _ _ _ (F0 _ _ _ [.ref _])
      refine lv_astore hx hb dB_open_12 hl (by decide) rfl (fun ls hl => ?_)
      refine lv_aload_n hx hb dB_open_14 rfl (lv_at hl 2 rfl) ?_
      refine lv_iload_n hx hb dB_open_15 rfl (lv_at hl 5 rfl) ?_
      refine ct_VX (n := 1) hE hI (kB_register hl0 h b) h0 rfl gm_B32 gi_B_register gs_B_B_register gz_B gc_B_register (by decide +kernel) ⟨Nat.le_of_ble_eq_true rfl, Nat.le_of_ble_eq_true rfl⟩ rfl hl.1 rfl (Nat.le_of_ble_eq_true rfl) dB_open_16 ⟨Nat.le_of_ble_eq_true rfl, Nat.le_of_ble_eq_true rfl⟩ (fun v w1 H locs hq hI => ?_) (fun E q ce w1 H locs ht hI hq hv hcl => ?_)
      · obtain ⟨hw, y, hry, rfl⟩ := hq
        subst w1
        obtain ⟨hy16, -⟩ := rk_some hry
        show W _ _ _ _ _ _ _ _ _ _ _ _ _ _ _ (F0 _ _ _ [.ref _])
        obtain ⟨cx, hRx⟩ := h.reg hx16
        obtain ⟨cy, hRy⟩ := h.reg hy16
        have hm := h.2.2.2.1.1
        have okx := h.ok hx16
        have oky := h.ok hy16
        obtain ⟨g, kT, kA, kf, kc, kc2, kx⟩ := hRx.out
        obtain ⟨x0, e0, e2, -⟩ := tm_hd (σ x)
        have hb0 := kx x0 (List.mem_of_getElem? e0)
        have hcx : 1 ≤ cx := Nat.le_trans (by rw [tm_db_len]; exact tm_sz_pos _) kc
        refine lv_astore hx hb dB_open_19 hl (by decide) rfl (fun ls hl => ?_)
        refine lv_aload hx hb dB_open_21 (lv_at hl 1 rfl) ?_
        refine ct_V (n := 0) hE hI (kT_first kT kA (by omega) (by omega)) kT rfl gm_B58 gi_T_first gs_T_T_first gz_T gc_T_first (by decide +kernel) ⟨Nat.le_of_ble_eq_true rfl, Nat.le_of_ble_eq_true rfl⟩ rfl hl.1 rfl (Nat.le_of_ble_eq_true rfl) dB_open_23 ⟨Nat.le_of_ble_eq_true rfl, Nat.le_of_ble_eq_true rfl⟩ (fun v w1 H locs hq hI => ?_)
        obtain ⟨rfl, hw⟩ := hq
        subst w1
        show W _ _ _ _ _ _ _ _ _ _ _ _ _ _ _ (F0 _ _ _ [.int _])
        rw [kf 0 x0 e0]
        refine lv_bipush (v := ci_i (-2)) hx hb dB_open_26 (by decide) ?_
        refine lv_icmp_eq (tgt := 41) hx hb dB_open_28 (by decide) (fun hq => ?_) (fun hq => ?_)
        · rw [ci_eq (by omega) (by omega)] at hq
          obtain ⟨j, cc, ex⟩ := e2.mp hq
          obtain ⟨erow, hsc⟩ := tm_open_row (j := j) (c := cc) (b := σ y) (by rw [← ex]; exact okx) oky
          rw [← ex] at erow
          have er := op_open_f hrt hrx hry ex
          refine lv_aload hx hb dB_open_41 (lv_at hl 2 rfl) ?_
          refine lv_aload_n hx hb dB_open_43 rfl (lv_at hl 3 rfl) ?_
          refine mp_get hE.1 hI h0 rfl gx_B 1 (by decide) (List.mem_cons_of_mem _ gf_B21) rfl dB_open_44 ?_
          refine lv_aload hx hb dB_open_47 (lv_at hl 1 rfl) ?_
          refine lv_aload hx hb dB_open_49 (lv_at hl 0 rfl) ?_
          refine ct_VX (n := 2) hE hI (kS_fill hl0 h.1 hm hS (i := x) (j := y) (by omega) (by omega) (by omega) (by omega) hRx hRy (by rw [tm_db_len]; exact tm_sz_pos _) (by rw [erow]; intro hz; rw [tm_db_len] at hz; exact tm_db_b hsc hz)) hS.1 rfl gm_B69 gi_S_fill gs_S_S_fill gz_S gc_S_fill (by decide +kernel) ⟨Nat.le_of_ble_eq_true rfl, Nat.le_of_ble_eq_true rfl⟩ rfl hl.1 rfl (Nat.le_of_ble_eq_true rfl) dB_open_51 ⟨Nat.le_of_ble_eq_true rfl, Nat.le_of_ble_eq_true rfl⟩ (fun v w1 H locs hq hI => ?_) (fun E q ce w1 H locs ht hI hq hv hcl => ?_)
          · obtain ⟨rfl, hnb, ho, hS1⟩ := hq
            rw [erow] at hnb hS1
            rw [tm_bad] at hnb
            show W _ _ _ _ _ _ _ _ _ _ _ _ _ _ _ (F0 _ _ _ [.ref _, .ref _])
            cases hu : tm_chk (tm_sub (-1 - (j : Int)) (σ y) cc) with
            | none => exact absurd hu hnb
            | some u =>
              obtain ⟨hoG, h1, hRm, hok⟩ := h.made hsc hu ho hS1
              obtain ⟨ct, hRt⟩ := h1.reg ht16
              obtain ⟨_, kT, -⟩ := hRt.out
              refine ct_V (n := 1) hE hI (kT_become hRt.V hRm) kT rfl gm_B46 gi_T_become gs_T_T_become gz_T gc_T_become (by decide +kernel) ⟨Nat.le_of_ble_eq_true rfl, Nat.le_of_ble_eq_true rfl⟩ rfl hl.1 rfl (Nat.le_of_ble_eq_true rfl) dB_open_54 ⟨Nat.le_of_ble_eq_true rfl, Nat.le_of_ble_eq_true rfl⟩ (fun v w2 H locs hq hI => ?_)
              obtain ⟨rfl, ar', cap', har, -, ho2, hR2⟩ := hq
              show W _ _ _ _ _ _ _ _ _ _ _ _ _ _ _ (F0 _ _ _ [.int _])
              rw [tm_db_len]
              refine vx_ret (ct_iret hE hI hr hk ⟨by rw [er, ck_some hu], by rw [er, ck_some hu], ?_⟩ (by decide) (by decide) dB_open_57)
              rw [er, ck_some hu]
              exact bx.set h hoG h1 ht16 har ho2 hR2 hok
          · obtain ⟨hE1, hbd, ho, M2, hS2⟩ := ht
            rw [erow, tm_bad] at hbd
            exact ct_out hI hout hk hq hv hcl ⟨by rw [er, ck_none hbd]; simp, by rw [er, ck_none hbd]; exact hE1, by rw [er, ck_none hbd]; exact bx.ws h (fp_G_S hm ho) (pt_G.of h.1 h.2.2.2.1 ho hS2)⟩ (by decide) (by decide)
        · rw [ci_eq (by omega) (by omega)] at hq
          have er := op_open_n hrt hrx hry (fun j c e => hq (e2.mpr ⟨j, c, e⟩))
          exact ct_throw hE hl0 hI (cls := "java/lang/IllegalArgumentException") (text := "no FUNCTION") (names := ["java/lang/RuntimeException", "java/lang/Exception"]) (ic := 66) (by decide +kernel) (by decide +kernel) gk_B62 gz_Jg (by decide +kernel) oa_B62_66 og_B62_66 hl.1 dB_open_31 dB_open_34 dB_open_35 dB_open_37 dB_open_40 hout (Nat.le_of_ble_eq_true rfl) (Nat.le_of_ble_eq_true rfl) (Nat.le_of_ble_eq_true rfl) (Nat.le_of_ble_eq_true rfl) hk ⟨by rw [er]; simp, by rw [er]; rfl, by rw [er]; exact bx.rf h⟩ (Nat.le_of_ble_eq_true rfl) (Nat.le_of_ble_eq_true rfl)
      · obtain ⟨hw, hE1, hry⟩ := ht
        subst w1
        have er : op_open σ to a b = (1, 0, σ) := by unfold op_open; rw [hrt, hrx, hry]
        exact ct_out hI hout hk hq hv hcl ⟨by rw [er]; simp, by rw [er]; exact hE1, by rw [er]; exact bx.rf h⟩ (Nat.le_of_ble_eq_true rfl) (Nat.le_of_ble_eq_true rfl)
    · obtain ⟨hw, hE1, hrx⟩ := ht
      subst w1
      have er : op_open σ to a b = (1, 0, σ) := by unfold op_open; rw [hrt, hrx]
      exact ct_out hI hout hk hq hv hcl ⟨by rw [er]; simp, by rw [er]; exact hE1, by rw [er]; exact bx.rf h⟩ (Nat.le_of_ble_eq_true rfl) (Nat.le_of_ble_eq_true rfl)
  · obtain ⟨hw, hE1, hrt⟩ := ht
    subst w1
    have er : op_open σ to a b = (1, 0, σ) := by unfold op_open; rw [hrt]
    exact ct_out hI hout hk hq hv hcl ⟨by rw [er]; simp, by rw [er]; exact hE1, by rw [er]; exact bx.rf h⟩ (Nat.le_of_ble_eq_true rfl) (Nat.le_of_ble_eq_true rfl)
end KB3
end
section
/-! the face: part, step, head, normal, same -/
def op_part (σ : Nat → Std.Format) (to a second : Int32) : oR := match rk to, rk a with
  | some t, some x => (match σ x with
    | .append p q => (0, 0, su σ t (tm_can (if second = 0 then p else q)))
    | _ => (2, 0, σ))
  | _, _ => (1, 0, σ)
theorem op_part_a {σ : Nat → Std.Format} {to a s : Int32} {t x : Nat} {p q : Std.Format} (h1 : rk to = some t) (h2 : rk a = some x) (h4 : σ x = .append p q) : op_part σ to a s = (0, 0, su σ t (tm_can (if s = 0 then p else q))) := by
  unfold op_part
  rw [h1, h2]
  show (match σ x with
    | .append p q => (0, 0, su σ t (tm_can (if s = 0 then p else q)))
    | _ => (2, 0, σ)) = _
  rw [h4]
theorem op_part_n {σ : Nat → Std.Format} {to a s : Int32} {t x : Nat} (h1 : rk to = some t) (h2 : rk a = some x) (h4 : ∀ p q, σ x ≠ .append p q) : op_part σ to a s = (2, 0, σ) := by
  unfold op_part
  rw [h1, h2]
  show (match σ x with
    | .append p q => (0, 0, su σ t (tm_can (if s = 0 then p else q)))
    | _ => (2, 0, σ)) = _
  split
  · rename_i p q e
    exact absurd e (h4 p q)
  · rfl
def op_step (σ : Nat → Std.Format) (to a : Int32) : oR := match rk to, rk a with
  | some t, some x => (match tm_f1 (tm_ks (σ x)) with
    | none => (0, 0, su σ t (σ x))
    | some p => (match tm_chk (tm_ct (σ x) p) with
      | none => (2, 0, σ)
      | some u => (0, 1, su σ t u)))
  | _, _ => (1, 0, σ)
def op_all (hd : Bool) (σ : Nat → Std.Format) (to a : Int32) : oR := match rk to, rk a with
  | some t, some x => (match tm_rd hd 301 0 (σ x) with
    | none => (2, 0, σ)
    | some none => (3, 0, σ)
    | some (some (n, u)) => (0, n, su σ t u))
  | _, _ => (1, 0, σ)
def op_same (σ : Nat → Std.Format) (a b : Int32) : oR := match rk a, rk b with
  | some x, some y => (0, if tm_db (σ x) [] = tm_db (σ y) [] then 1 else 0, σ)
  | _, _ => (1, 0, σ)
theorem tm_can_ok {t : Std.Format} (hs : tm_sc t []) (h1 : tm_sz t ≤ 2000) (h2 : tm_dp t ≤ 150) : tm_ok (tm_can t) ∧ tm_db (tm_can t) [] = tm_db t [] := by
  have h : tm_chk t = some (tm_can t) := by unfold tm_chk; rw [if_pos ⟨h1, h2⟩]
  obtain ⟨a1, a2, -⟩ := tm_chk_ok hs h
  exact ⟨a1, a2⟩
section KB4
variable {l : Launch} {n0 : Nat} {D : va_G} {K : Nat → ClassId} {w : mp_W} {f : Nat → Nat} {mi bc : Nat} {σ : Nat → Std.Format} {out : List Int}
set_option maxRecDepth 100000 in
set_option maxHeartbeats 1000000 in
theorem kB_part (hl0 : l.stackTraces = false) (h : iv_B K w f mi σ bc out) (to a v0 : Int32) : ct_X l n0 D K yB_part (Cond.code yB_part cB_part 6 none) 9 240 3 2012 [.ref (f 0), .int to, .int a, .int v0] w (po_Bv K w f bc out (op_part σ to a v0)) (th_B K w f bc out ex_2 (op_part σ to a v0)) := by
  have h0 := h.2.1
  obtain ⟨M, hS⟩ := h.S
  refine ct_goX (own := nm_B) (by decide) rfl (Nat.le_of_ble_eq_true rfl) ?_
  intro p e s m below meth c ls hE hI hr hk hout hl
  have hx := hE.1.1.1
  have hb := hE.1.1.2.1
  have hl : lv_has ls 6 [(0, .ref (f 0)), (1, .int to), (2, .int a), (3, .int v0)] := hl
  refine lv_aload_n hx hb dB_part_0 rfl (lv_at hl 0 rfl) ?_
  refine lv_iload_n hx hb dB_part_1 rfl (lv_at hl 1 rfl) ?_
  refine ct_VX (n := 1) hE hI (kB_register hl0 h to) h0 rfl gm_B32 gi_B_register gs_B_B_register gz_B gc_B_register (by decide +kernel) ⟨Nat.le_of_ble_eq_true rfl, Nat.le_of_ble_eq_true rfl⟩ rfl hl.1 rfl (Nat.le_of_ble_eq_true rfl) dB_part_2 ⟨Nat.le_of_ble_eq_true rfl, Nat.le_of_ble_eq_true rfl⟩ (fun v w1 H locs hq hI => ?_) (fun E q ce w1 H locs ht hI hq hv hcl => ?_)
  · obtain ⟨hw, t, hrt, rfl⟩ := hq
    subst w1
    obtain ⟨ht16, -⟩ := rk_some hrt
    show W _ _ _ _ _ _ _ _ _ _ _ _ _ _ _ (F0 _ _ _ [.ref _])
    refine lv_astore hx hb dB_part_5 hl (by decide) rfl (fun ls hl => ?_)
    refine lv_aload_n hx hb dB_part_7 rfl (lv_at hl 1 rfl) ?_
    refine lv_iload_n hx hb dB_part_8 rfl (lv_at hl 3 rfl) ?_
    refine ct_VX (n := 1) hE hI (kB_register hl0 h a) h0 rfl gm_B32 gi_B_register gs_B_B_register gz_B gc_B_register (by decide +kernel) ⟨Nat.le_of_ble_eq_true rfl, Nat.le_of_ble_eq_true rfl⟩ rfl hl.1 rfl (Nat.le_of_ble_eq_true rfl) dB_part_9 ⟨Nat.le_of_ble_eq_true rfl, Nat.le_of_ble_eq_true rfl⟩ (fun v w1 H locs hq hI => ?_) (fun E q ce w1 H locs ht hI hq hv hcl => ?_)
    · obtain ⟨hw, x, hrx, rfl⟩ := hq
      subst w1
      obtain ⟨hx16, -⟩ := rk_some hrx
      show W _ _ _ _ _ _ _ _ _ _ _ _ _ _ _ (F0 _ _ _ [.ref _])
      obtain ⟨cx, hRx⟩ := h.reg hx16
      have hm := h.2.2.2.1.1
      have okx := h.ok hx16
      obtain ⟨g, kT, kA, kf, kc, kc2, kx⟩ := hRx.out
      obtain ⟨x0, e0, -, e2⟩ := tm_hd (σ x)
      have hb0 := kx x0 (List.mem_of_getElem? e0)
      have hcx : 1 ≤ cx := Nat.le_trans (by rw [tm_db_len]; exact tm_sz_pos _) kc
      refine lv_astore hx hb dB_part_12 hl (by decide) rfl (fun ls hl => ?_)
      refine lv_aload hx hb dB_part_14 (lv_at hl 0 rfl) ?_
      refine ct_V (n := 0) hE hI (kT_first kT kA (by omega) (by omega)) kT rfl gm_B58 gi_T_first gs_T_T_first gz_T gc_T_first (by decide +kernel) ⟨Nat.le_of_ble_eq_true rfl, Nat.le_of_ble_eq_true rfl⟩ rfl hl.1 rfl (Nat.le_of_ble_eq_true rfl) dB_part_16 ⟨Nat.le_of_ble_eq_true rfl, Nat.le_of_ble_eq_true rfl⟩ (fun v w1 H locs hq hI => ?_)
      obtain ⟨rfl, hw⟩ := hq
      subst w1
      show W _ _ _ _ _ _ _ _ _ _ _ _ _ _ _ (F0 _ _ _ [.int _])
      rw [kf 0 x0 e0]
      refine lv_iconst (v := ci_i (-1)) hx hb dB_part_19 (by decide) ?_
      refine lv_icmp_eq (tgt := 33) hx hb dB_part_20 (by decide) (fun hq => ?_) (fun hq => ?_)
      · rw [ci_eq (by omega) (by omega)] at hq
        obtain ⟨pp, qq, ex⟩ := e2.mp hq
        have er := op_part_a (s := v0) hrt hrx ex
        obtain ⟨hsc, -, hsz, hdp⟩ := okx
        rw [ex] at hsc hsz hdp
        have hdp : 1 + max (tm_dp pp) (tm_dp qq) ≤ 150 := hdp
        have hsz : 1 + tm_sz pp + tm_sz qq ≤ 2000 := hsz
        have eA : tm_db (σ x) [] = -1 :: (tm_db pp [] ++ tm_db qq []) := by rw [ex, tm_db_app]
        have een : 1 + tm_en tm_kc ((tm_db (σ x) []).drop 1) 1 = 1 + tm_sz pp := by
          rw [eA]
          show 1 + tm_en tm_kc (tm_db pp [] ++ tm_db qq []) 1 = _
          rw [tm_en_db]
        obtain ⟨okc, edb⟩ : tm_ok (tm_can (if v0 = 0 then pp else qq)) ∧ tm_db (tm_can (if v0 = 0 then pp else qq)) [] = tm_db (if v0 = 0 then pp else qq) [] := by
          split
          · exact tm_can_ok hsc.1 (by omega) (by omega)
          · exact tm_can_ok hsc.2 (by omega) (by omega)
        refine lv_aload hx hb dB_part_33 (lv_at hl 1 rfl) ?_
        refine lv_aload_n hx hb dB_part_35 rfl (lv_at hl 2 rfl) ?_
        refine mp_get hE.1 hI h0 rfl gx_B 1 (by decide) (List.mem_cons_of_mem _ gf_B21) rfl dB_part_36 ?_
        refine lv_aload hx hb dB_part_39 (lv_at hl 0 rfl) ?_
        refine lv_iload_n hx hb dB_part_41 rfl (lv_at hl 5 rfl) ?_
        refine ct_V (n := 2) hE hI (kS_cut h.1 hm hS (i := x) (by omega) (by omega) hRx een (by rw [tm_db_len, ex]; show 1 + tm_sz pp ≤ 1 + tm_sz pp + tm_sz qq; omega)) hS.1 rfl gm_B74 gi_S_cut gs_S_S_cut gz_S gc_S_cut (by decide +kernel) ⟨Nat.le_of_ble_eq_true rfl, Nat.le_of_ble_eq_true rfl⟩ rfl hl.1 rfl (Nat.le_of_ble_eq_true rfl) dB_part_42 ⟨Nat.le_of_ble_eq_true rfl, Nat.le_of_ble_eq_true rfl⟩ (fun v w1 H locs hq hI => ?_)
        obtain ⟨rfl, ho, hS1⟩ := hq
        have erow : (if v0 = 0 then ((tm_db (σ x) []).drop 1).take (1 + tm_sz pp - 1) else (tm_db (σ x) []).drop (1 + tm_sz pp)) = tm_db (tm_can (if v0 = 0 then pp else qq)) [] := by
          rw [edb, eA]
          split
          · show (tm_db pp [] ++ tm_db qq []).take _ = _
            rw [show 1 + tm_sz pp - 1 = (tm_db pp []).length by rw [tm_db_len]; omega, List.take_left]
          · rw [show 1 + tm_sz pp = tm_sz pp + 1 by omega, List.drop_succ_cons, show tm_sz pp = (tm_db pp []).length by rw [tm_db_len], List.drop_left]
        rw [erow] at hS1
        show W _ _ _ _ _ _ _ _ _ _ _ _ _ _ _ (F0 _ _ _ [.ref _, .ref _])
        have hoG := fp_G_S hm ho
        have h1 := h.ws hoG (pt_G.of h.1 h.2.2.2.1 ho hS1)
        have hRm : pt_R K w1 (f (13 + 2 * mi)) (f (14 + 2 * mi)) 2000 (tm_db (tm_can (if v0 = 0 then pp else qq)) []) := ⟨hS1.2.1, by rw [tm_db_len]; exact okc.2.2.1, Nat.le_refl _, tm_db_b okc.1 okc.2.2.1⟩
        obtain ⟨ct, hRt⟩ := h1.reg ht16
        obtain ⟨_, kT, -⟩ := hRt.out
        refine ct_V (n := 1) hE hI (kT_become hRt.V hRm) kT rfl gm_B46 gi_T_become gs_T_T_become gz_T gc_T_become (by decide +kernel) ⟨Nat.le_of_ble_eq_true rfl, Nat.le_of_ble_eq_true rfl⟩ rfl hl.1 rfl (Nat.le_of_ble_eq_true rfl) dB_part_45 ⟨Nat.le_of_ble_eq_true rfl, Nat.le_of_ble_eq_true rfl⟩ (fun v w2 H locs hq hI => ?_)
        obtain ⟨rfl, ar', cap', har, -, ho2, hR2⟩ := hq
        show W _ _ _ _ _ _ _ _ _ _ _ _ _ _ _ (F0 _ _ _ [.int _])
        refine lv_pop hx hb dB_part_48 rfl ?_
        refine vx_ret (ct_vret hE hI hr hk ⟨by rw [er], rfl, ?_⟩ (by decide) (by decide) dB_part_49)
        rw [er]
        exact bx.set h hoG h1 ht16 har ho2 hR2 okc
      · rw [ci_eq (by omega) (by omega)] at hq
        have er := op_part_n (s := v0) hrt hrx (fun p q e => hq (e2.mpr ⟨p, q, e⟩))
        exact ct_throw hE hl0 hI (cls := "java/lang/IllegalArgumentException") (text := "no (a b)") (names := ["java/lang/RuntimeException", "java/lang/Exception"]) (ic := 66) (by decide +kernel) (by decide +kernel) gk_B62 gz_Jg (by decide +kernel) oa_B62_66 og_B62_66 hl.1 dB_part_23 dB_part_26 dB_part_27 dB_part_29 dB_part_32 hout (Nat.le_of_ble_eq_true rfl) (Nat.le_of_ble_eq_true rfl) (Nat.le_of_ble_eq_true rfl) (Nat.le_of_ble_eq_true rfl) hk ⟨by rw [er]; simp, by rw [er]; rfl, by rw [er]; exact bx.rf h⟩ (Nat.le_of_ble_eq_true rfl) (Nat.le_of_ble_eq_true rfl)
    · obtain ⟨hw, hE1, hrx⟩ := ht
      subst w1
      have er : op_part σ to a v0 = (1, 0, σ) := by unfold op_part; rw [hrt, hrx]
      exact ct_out hI hout hk hq hv hcl ⟨by rw [er]; simp, by rw [er]; exact hE1, by rw [er]; exact bx.rf h⟩ (Nat.le_of_ble_eq_true rfl) (Nat.le_of_ble_eq_true rfl)
  · obtain ⟨hw, hE1, hrt⟩ := ht
    subst w1
    have er : op_part σ to a v0 = (1, 0, σ) := by unfold op_part; rw [hrt]
    exact ct_out hI hout hk hq hv hcl ⟨by rw [er]; simp, by rw [er]; exact hE1, by rw [er]; exact bx.rf h⟩ (Nat.le_of_ble_eq_true rfl) (Nat.le_of_ble_eq_true rfl)
set_option maxRecDepth 100000 in
set_option maxHeartbeats 1000000 in
theorem kB_step (hl0 : l.stackTraces = false) (h : iv_B K w f mi σ bc out) (to a : Int32) : ct_X l n0 D K yB_step (Cond.code yB_step cB_step 6 (some .boolean)) 9 240 4 2018 [.ref (f 0), .int to, .int a] w (po_B K w f bc out (op_step σ to a)) (th_B K w f bc out ex_1 (op_step σ to a)) := by
  have h0 := h.2.1
  obtain ⟨M, hS⟩ := h.S
  refine ct_goX (own := nm_B) (by decide) rfl (Nat.le_of_ble_eq_true rfl) ?_
  intro p e s m below meth c ls hE hI hr hk hout hl
  have hx := hE.1.1.1
  have hb := hE.1.1.2.1
  have hl : lv_has ls 6 [(0, .ref (f 0)), (1, .int to), (2, .int a)] := hl
  refine lv_aload_n hx hb dB_step_0 rfl (lv_at hl 0 rfl) ?_
  refine lv_iload_n hx hb dB_step_1 rfl (lv_at hl 1 rfl) ?_
  refine ct_VX (n := 1) hE hI (kB_register hl0 h to) h0 rfl gm_B32 gi_B_register gs_B_B_register gz_B gc_B_register (by decide +kernel) ⟨Nat.le_of_ble_eq_true rfl, Nat.le_of_ble_eq_true rfl⟩ rfl hl.1 rfl (Nat.le_of_ble_eq_true rfl) dB_step_2 ⟨Nat.le_of_ble_eq_true rfl, Nat.le_of_ble_eq_true rfl⟩ (fun v w1 H locs hq hI => ?_) (fun E q ce w1 H locs ht hI hq hv hcl => ?_)
  · obtain ⟨hw, t, hrt, rfl⟩ := hq
    subst w1
    obtain ⟨ht16, -⟩ := rk_some hrt
    show W _ _ _ _ _ _ _ _ _ _ _ _ _ _ _ (F0 _ _ _ [.ref _])
    refine lv_astore_n hx hb dB_step_5 rfl hl (by decide) rfl (fun ls hl => ?_)
    refine lv_aload_n hx hb dB_step_6 rfl (lv_at hl 1 rfl) ?_
    refine lv_iload_n hx hb dB_step_7 rfl (lv_at hl 3 rfl) ?_
    refine ct_VX (n := 1) hE hI (kB_register hl0 h a) h0 rfl gm_B32 gi_B_register gs_B_B_register gz_B gc_B_register (by decide +kernel) ⟨Nat.le_of_ble_eq_true rfl, Nat.le_of_ble_eq_true rfl⟩ rfl hl.1 rfl (Nat.le_of_ble_eq_true rfl) dB_step_8 ⟨Nat.le_of_ble_eq_true rfl, Nat.le_of_ble_eq_true rfl⟩ (fun v w1 H locs hq hI => ?_) (fun E q ce w1 H locs ht hI hq hv hcl => ?_)
    · obtain ⟨hw, x, hrx, rfl⟩ := hq
      subst w1
      obtain ⟨hx16, -⟩ := rk_some hrx
      show W _ _ _ _ _ _ _ _ _ _ _ _ _ _ _ (F0 _ _ _ [.ref _])
      obtain ⟨cx, hRx⟩ := h.reg hx16
      have hm := h.2.2.2.1.1
      have okx := h.ok hx16
      obtain ⟨g, kT, kA, kf, kc, kc2, kx⟩ := hRx.out
      refine lv_astore hx hb dB_step_11 hl (by decide) rfl (fun ls hl => ?_)
      refine lv_aload hx hb dB_step_13 (lv_at hl 0 rfl) ?_
      refine lv_iconst (v := nI 0) hx hb dB_step_15 (by decide) ?_
      refine ct_V (n := 1) hE hI (kT_firstRedex (a := 0) hRx (by omega) (by rw [tm_db_len]; exact tm_sz_pos _)) kT rfl gm_B78 gi_T_firstRedex gs_T_T_firstRedex gz_T gc_T_firstRedex (by decide +kernel) ⟨Nat.le_of_ble_eq_true rfl, Nat.le_of_ble_eq_true rfl⟩ rfl hl.1 rfl (Nat.le_of_ble_eq_true rfl) dB_step_16 ⟨Nat.le_of_ble_eq_true rfl, Nat.le_of_ble_eq_true rfl⟩ (fun v w1 H locs hq hI => ?_)
      obtain ⟨hw, r, rfl, hrr⟩ := hq
      subst w1
      show W _ _ _ _ _ _ _ _ _ _ _ _ _ _ _ (F0 _ _ _ [.int _])
      refine lv_istore hx hb dB_step_19 hl (by decide) rfl (fun ls hl => ?_)
      refine lv_iload hx hb dB_step_21 (lv_at hl 0 rfl) ?_
      refine lv_iconst (v := (-1)) hx hb dB_step_23 (by decide) ?_
      refine lv_icmp_ne (tgt := 36) hx hb dB_step_24 (by decide) (fun hq => ?_) (fun hq => ?_)
      · rcases hrr with ⟨i, rfl, -, hrx0, hlt⟩ | ⟨e, -⟩
        · have hrx1 : tm_rx (σ x) i := (pt_rx_tm _ i).mp hrx0
          have hf1 : tm_f1 (tm_ks (σ x)) = some i := tm_f1_is hrx1 (fun j hj z => hlt j (by omega) hj ((pt_rx_tm _ j).mpr z))
          obtain ⟨e1, e2, c1, c2, c3, c4, c5, c6⟩ := tm_con okx hrx1
          have hsz : (tm_db (tm_ct (σ x) i) []).length ≤ 2000 → ∀ y ∈ tm_db (tm_ct (σ x) i) [], -2 ≤ y ∧ y ≤ 1000000 := fun hh => tm_db_b c6 (by rw [tm_db_len] at hh; exact hh)
          refine lv_aload_n hx hb dB_step_36 rfl (lv_at hl 2 rfl) ?_
          refine lv_aload_n hx hb dB_step_37 rfl (lv_at hl 3 rfl) ?_
          refine mp_get hE.1 hI h0 rfl gx_B 1 (by decide) (List.mem_cons_of_mem _ gf_B21) rfl dB_step_38 ?_
          refine lv_aload hx hb dB_step_41 (lv_at hl 1 rfl) ?_
          refine lv_iload hx hb dB_step_43 (lv_at hl 0 rfl) ?_
          refine ct_VX (n := 2) hE hI (kS_contract hl0 h.1 hm hS (i := x) (by omega) (by omega) hRx c1 c2 c3 c4 c5 hsz) hS.1 rfl gm_B82 gi_S_contract gs_S_S_contract gz_S gc_S_contract (by decide +kernel) ⟨Nat.le_of_ble_eq_true rfl, Nat.le_of_ble_eq_true rfl⟩ rfl hl.1 rfl (Nat.le_of_ble_eq_true rfl) dB_step_45 ⟨Nat.le_of_ble_eq_true rfl, Nat.le_of_ble_eq_true rfl⟩ (fun v w1 H locs hq hI => ?_) (fun E q ce w1 H locs ht hI hq hv hcl => ?_)
          · obtain ⟨rfl, hnb, ho, hS1⟩ := hq
            rw [tm_bad] at hnb
            show W _ _ _ _ _ _ _ _ _ _ _ _ _ _ _ (F0 _ _ _ [.ref _, .ref _])
            cases hu : tm_chk (tm_ct (σ x) i) with
            | none => exact absurd hu hnb
            | some u =>
              have er : op_step σ to a = (0, 1, su σ t u) := by unfold op_step; simp only [hrt, hrx, hf1, hu]
              obtain ⟨hoG, h1, hRm, hok⟩ := h.made c6 hu ho hS1
              obtain ⟨ct, hRt⟩ := h1.reg ht16
              obtain ⟨_, kT, -⟩ := hRt.out
              refine ct_V (n := 1) hE hI (kT_become hRt.V hRm) kT rfl gm_B46 gi_T_become gs_T_T_become gz_T gc_T_become (by decide +kernel) ⟨Nat.le_of_ble_eq_true rfl, Nat.le_of_ble_eq_true rfl⟩ rfl hl.1 rfl (Nat.le_of_ble_eq_true rfl) dB_step_48 ⟨Nat.le_of_ble_eq_true rfl, Nat.le_of_ble_eq_true rfl⟩ (fun v w2 H locs hq hI => ?_)
              obtain ⟨rfl, ar', cap', har, -, ho2, hR2⟩ := hq
              show W _ _ _ _ _ _ _ _ _ _ _ _ _ _ _ (F0 _ _ _ [.int _])
              refine lv_pop hx hb dB_step_51 rfl ?_
              refine lv_iconst (v := 1) hx hb dB_step_52 (by decide) ?_
              refine vx_ret (ct_zret hE hI hr hk (Or.inr rfl) ⟨by rw [er], by rw [er]; rfl, ?_⟩ (by decide) (by decide) dB_step_53)
              rw [er]
              exact bx.set h hoG h1 ht16 har ho2 hR2 hok
          · obtain ⟨hE1, hbd, ho, M2, hS2⟩ := ht
            rw [tm_bad] at hbd
            have er : op_step σ to a = (2, 0, σ) := by unfold op_step; simp only [hrt, hrx, hf1, hbd]
            exact ct_out hI hout hk hq hv hcl ⟨by rw [er]; simp, by rw [er]; exact hE1, by rw [er]; exact bx.ws h (fp_G_S hm ho) (pt_G.of h.1 h.2.2.2.1 ho hS2)⟩ (by decide) (by decide)
        · exact absurd e hq
      · rcases hrr with ⟨i, rfl, -, hrx0, hlt⟩ | ⟨-, hno⟩
        · have hrx1 : tm_rx (σ x) i := (pt_rx_tm _ i).mp hrx0
          have := tm_rx_lt hrx1
          have := okx.2.2.1
          exact absurd (by rw [hq]; decide) (nI_pos (n := i) (by omega))
        · have hf1 : tm_f1 (tm_ks (σ x)) = none := tm_f1_no (fun j z => hno j (by omega) ((pt_rx_tm _ j).mpr z))
          have er : op_step σ to a = (0, 0, su σ t (σ x)) := by unfold op_step; simp only [hrt, hrx, hf1]
          obtain ⟨ct, hRt⟩ := h.reg ht16
          obtain ⟨_, kTt, -⟩ := hRt.out
          refine lv_aload_n hx hb dB_step_27 rfl (lv_at hl 2 rfl) ?_
          refine lv_aload hx hb dB_step_28 (lv_at hl 1 rfl) ?_
          refine ct_V (n := 1) hE hI (kT_become hRt.V hRx) kTt rfl gm_B46 gi_T_become gs_T_T_become gz_T gc_T_become (by decide +kernel) ⟨Nat.le_of_ble_eq_true rfl, Nat.le_of_ble_eq_true rfl⟩ rfl hl.1 rfl (Nat.le_of_ble_eq_true rfl) dB_step_30 ⟨Nat.le_of_ble_eq_true rfl, Nat.le_of_ble_eq_true rfl⟩ (fun v w2 H locs hq hI => ?_)
          obtain ⟨rfl, ar', cap', har, -, ho2, hR2⟩ := hq
          show W _ _ _ _ _ _ _ _ _ _ _ _ _ _ _ (F0 _ _ _ [.int _])
          refine lv_pop hx hb dB_step_33 rfl ?_
          refine lv_iconst (v := 0) hx hb dB_step_34 (by decide) ?_
          refine vx_ret (ct_zret hE hI hr hk (Or.inl rfl) ⟨by rw [er], by rw [er]; rfl, ?_⟩ (by decide) (by decide) dB_step_35)
          rw [er]
          exact bx.set h (mp_off.rf _ _) h ht16 har ho2 hR2 okx
    · obtain ⟨hw, hE1, hrx⟩ := ht
      subst w1
      have er : op_step σ to a = (1, 0, σ) := by unfold op_step; rw [hrt, hrx]
      exact ct_out hI hout hk hq hv hcl ⟨by rw [er]; simp, by rw [er]; exact hE1, by rw [er]; exact bx.rf h⟩ (Nat.le_of_ble_eq_true rfl) (Nat.le_of_ble_eq_true rfl)
  · obtain ⟨hw, hE1, hrt⟩ := ht
    subst w1
    have er : op_step σ to a = (1, 0, σ) := by unfold op_step; rw [hrt]
    exact ct_out hI hout hk hq hv hcl ⟨by rw [er]; simp, by rw [er]; exact hE1, by rw [er]; exact bx.rf h⟩ (Nat.le_of_ble_eq_true rfl) (Nat.le_of_ble_eq_true rfl)
set_option maxRecDepth 100000 in
set_option maxHeartbeats 1000000 in
theorem kB_head (hl0 : l.stackTraces = false) (h : iv_B K w f mi σ bc out) (to a : Int32) : ct_X l n0 D K yB_head (Cond.code yB_head cB_head 5 (some .int)) 9 270 306 6012 [.ref (f 0), .int to, .int a] w (po_B K w f bc out (op_all true σ to a)) (th_B K w f bc out ex_3 (op_all true σ to a)) := by
  have h0 := h.2.1
  refine ct_goX (own := nm_B) (by decide) rfl (Nat.le_of_ble_eq_true rfl) ?_
  intro p e s m below meth c ls hE hI hr hk hout hl
  have hx := hE.1.1.1
  have hb := hE.1.1.2.1
  have hl : lv_has ls 5 [(0, .ref (f 0)), (1, .int to), (2, .int a)] := hl
  refine lv_aload_n hx hb dB_head_0 rfl (lv_at hl 0 rfl) ?_
  refine lv_iload_n hx hb dB_head_1 rfl (lv_at hl 1 rfl) ?_
  refine ct_VX (n := 1) hE hI (kB_register hl0 h to) h0 rfl gm_B32 gi_B_register gs_B_B_register gz_B gc_B_register (by decide +kernel) ⟨Nat.le_of_ble_eq_true rfl, Nat.le_of_ble_eq_true rfl⟩ rfl hl.1 rfl (Nat.le_of_ble_eq_true rfl) dB_head_2 ⟨Nat.le_of_ble_eq_true rfl, Nat.le_of_ble_eq_true rfl⟩ (fun v w1 H locs hq hI => ?_) (fun E q ce w1 H locs ht hI hq hv hcl => ?_)
  · obtain ⟨hw, t, hrt, rfl⟩ := hq
    subst w1
    obtain ⟨ht16, -⟩ := rk_some hrt
    show W _ _ _ _ _ _ _ _ _ _ _ _ _ _ _ (F0 _ _ _ [.ref _])
    refine lv_astore_n hx hb dB_head_5 rfl hl (by decide) rfl (fun ls hl => ?_)
    refine lv_aload_n hx hb dB_head_6 rfl (lv_at hl 1 rfl) ?_
    refine mp_get hE.1 hI h0 rfl gx_B 1 (by decide) (List.mem_cons_of_mem _ gf_B21) rfl dB_head_7 ?_
    refine lv_aload_n hx hb dB_head_10 rfl (lv_at hl 1 rfl) ?_
    refine lv_iload_n hx hb dB_head_11 rfl (lv_at hl 3 rfl) ?_
    refine ct_VX (n := 1) hE hI (kB_register hl0 h a) h0 rfl gm_B32 gi_B_register gs_B_B_register gz_B gc_B_register (by decide +kernel) ⟨Nat.le_of_ble_eq_true rfl, Nat.le_of_ble_eq_true rfl⟩ rfl hl.1 rfl (Nat.le_of_ble_eq_true rfl) dB_head_12 ⟨Nat.le_of_ble_eq_true rfl, Nat.le_of_ble_eq_true rfl⟩ (fun v w1 H locs hq hI => ?_) (fun E q ce w1 H locs ht hI hq hv hcl => ?_)
    · obtain ⟨hw, x, hrx, rfl⟩ := hq
      subst w1
      obtain ⟨hx16, -⟩ := rk_some hrx
      show W _ _ _ _ _ _ _ _ _ _ _ _ _ _ _ (F0 _ _ _ [.ref _, .ref _])
      obtain ⟨cx, hRx⟩ := h.reg hx16
      obtain ⟨M, hS⟩ := h.S
      refine lv_iconst (v := 1) hx hb dB_head_15 (by decide) ?_
      refine ct_VX (n := 2) hE hI (kS_reduce hl0 (hd := true) (t := σ x) h.1 h.2.2.2.1 hx16 hRx (h.ok hx16) (by decide)) hS.1 rfl gm_B85 gi_S_reduce gs_S_S_reduce gz_S gc_S_reduce (by decide +kernel) ⟨Nat.le_of_ble_eq_true rfl, Nat.le_of_ble_eq_true rfl⟩ rfl hl.1 rfl (Nat.le_of_ble_eq_true rfl) dB_head_16 ⟨Nat.le_of_ble_eq_true rfl, Nat.le_of_ble_eq_true rfl⟩ (fun v w1 H locs hq hI => ?_) (fun E q ce w1 H locs ht hI hq hv hcl => ?_)
      · obtain ⟨n, u, mi', hrd, rfl, ho, hG1, hRm, hok⟩ := hq
        have er : op_all true σ to a = (0, n, su σ t u) := by unfold op_all; simp only [hrt, hrx, hrd]
        have h1 := h.ws ho hG1
        have h10 := h1.2.1
        obtain ⟨M1, hS1⟩ := h1.S
        obtain ⟨ct, hRt⟩ := h1.reg ht16
        obtain ⟨_, kT, -⟩ := hRt.out
        show W _ _ _ _ _ _ _ _ _ _ _ _ _ _ _ (F0 _ _ _ [.int _])
        refine lv_istore hx hb dB_head_19 hl (by decide) rfl (fun ls hl => ?_)
        refine lv_aload_n hx hb dB_head_21 rfl (lv_at hl 1 rfl) ?_
        refine lv_aload_n hx hb dB_head_22 rfl (lv_at hl 2 rfl) ?_
        refine mp_get hE.1 hI h10 rfl gx_B 1 (by decide) (List.mem_cons_of_mem _ gf_B21) rfl dB_head_23 ?_
        refine ct_V (n := 0) hE hI (kS_reduced hS1.1) hS1.1 rfl gm_B89 gi_S_reduced gs_S_S_reduced gz_S gc_S_reduced (by decide +kernel) ⟨Nat.le_of_ble_eq_true rfl, Nat.le_of_ble_eq_true rfl⟩ rfl hl.1 rfl (Nat.le_of_ble_eq_true rfl) dB_head_26 ⟨Nat.le_of_ble_eq_true rfl, Nat.le_of_ble_eq_true rfl⟩ (fun v w2 H locs hq hI => ?_)
        obtain ⟨hw, rfl⟩ := hq
        subst w2
        show W _ _ _ _ _ _ _ _ _ _ _ _ _ _ _ (F0 _ _ _ [.ref _, .ref _])
        refine ct_V (n := 1) hE hI (kT_become hRt.V hRm) kT rfl gm_B46 gi_T_become gs_T_T_become gz_T gc_T_become (by decide +kernel) ⟨Nat.le_of_ble_eq_true rfl, Nat.le_of_ble_eq_true rfl⟩ rfl hl.1 rfl (Nat.le_of_ble_eq_true rfl) dB_head_29 ⟨Nat.le_of_ble_eq_true rfl, Nat.le_of_ble_eq_true rfl⟩ (fun v w2 H locs hq hI => ?_)
        obtain ⟨rfl, ar', cap', har, -, ho2, hR2⟩ := hq
        show W _ _ _ _ _ _ _ _ _ _ _ _ _ _ _ (F0 _ _ _ [.int _])
        refine lv_pop hx hb dB_head_32 rfl ?_
        refine lv_iload hx hb dB_head_33 (lv_at hl 0 rfl) ?_
        refine vx_ret (ct_iret hE hI hr hk ⟨by rw [er], by rw [er], ?_⟩ (by decide) (by decide) dB_head_35)
        rw [er]
        exact bx.set h ho h1 ht16 har ho2 hR2 hok
      · obtain ⟨mi', hE1, ho, hG1⟩ := ht
        rcases hE1 with ⟨rfl, hrd⟩ | ⟨rfl, hrd⟩
        · have er : op_all true σ to a = (2, 0, σ) := by unfold op_all; simp only [hrt, hrx, hrd]
          exact ct_out hI hout hk hq hv hcl ⟨by rw [er]; simp, by rw [er]; rfl, by rw [er]; exact bx.ws h ho hG1⟩ (by decide) (by decide)
        · have er : op_all true σ to a = (3, 0, σ) := by unfold op_all; simp only [hrt, hrx, hrd]
          exact ct_out hI hout hk hq hv hcl ⟨by rw [er]; simp, by rw [er]; rfl, by rw [er]; exact bx.ws h ho hG1⟩ (by decide) (by decide)
    · obtain ⟨hw, hE1, hrx⟩ := ht
      subst w1
      have er : op_all true σ to a = (1, 0, σ) := by unfold op_all; rw [hrt, hrx]
      exact ct_out hI hout hk hq hv hcl ⟨by rw [er]; simp, by rw [er]; exact hE1, by rw [er]; exact bx.rf h⟩ (Nat.le_of_ble_eq_true rfl) (Nat.le_of_ble_eq_true rfl)
  · obtain ⟨hw, hE1, hrt⟩ := ht
    subst w1
    have er : op_all true σ to a = (1, 0, σ) := by unfold op_all; rw [hrt]
    exact ct_out hI hout hk hq hv hcl ⟨by rw [er]; simp, by rw [er]; exact hE1, by rw [er]; exact bx.rf h⟩ (Nat.le_of_ble_eq_true rfl) (Nat.le_of_ble_eq_true rfl)
set_option maxRecDepth 100000 in
set_option maxHeartbeats 1000000 in
theorem kB_normal (hl0 : l.stackTraces = false) (h : iv_B K w f mi σ bc out) (to a : Int32) : ct_X l n0 D K yB_normal (Cond.code yB_normal cB_normal 5 (some .int)) 9 270 306 6012 [.ref (f 0), .int to, .int a] w (po_B K w f bc out (op_all false σ to a)) (th_B K w f bc out ex_3 (op_all false σ to a)) := by
  have h0 := h.2.1
  refine ct_goX (own := nm_B) (by decide) rfl (Nat.le_of_ble_eq_true rfl) ?_
  intro p e s m below meth c ls hE hI hr hk hout hl
  have hx := hE.1.1.1
  have hb := hE.1.1.2.1
  have hl : lv_has ls 5 [(0, .ref (f 0)), (1, .int to), (2, .int a)] := hl
  refine lv_aload_n hx hb dB_normal_0 rfl (lv_at hl 0 rfl) ?_
  refine lv_iload_n hx hb dB_normal_1 rfl (lv_at hl 1 rfl) ?_
  refine ct_VX (n := 1) hE hI (kB_register hl0 h to) h0 rfl gm_B32 gi_B_register gs_B_B_register gz_B gc_B_register (by decide +kernel) ⟨Nat.le_of_ble_eq_true rfl, Nat.le_of_ble_eq_true rfl⟩ rfl hl.1 rfl (Nat.le_of_ble_eq_true rfl) dB_normal_2 ⟨Nat.le_of_ble_eq_true rfl, Nat.le_of_ble_eq_true rfl⟩ (fun v w1 H locs hq hI => ?_) (fun E q ce w1 H locs ht hI hq hv hcl => ?_)
  · obtain ⟨hw, t, hrt, rfl⟩ := hq
    subst w1
    obtain ⟨ht16, -⟩ := rk_some hrt
    show W _ _ _ _ _ _ _ _ _ _ _ _ _ _ _ (F0 _ _ _ [.ref _])
    refine lv_astore_n hx hb dB_normal_5 rfl hl (by decide) rfl (fun ls hl => ?_)
    refine lv_aload_n hx hb dB_normal_6 rfl (lv_at hl 1 rfl) ?_
    refine mp_get hE.1 hI h0 rfl gx_B 1 (by decide) (List.mem_cons_of_mem _ gf_B21) rfl dB_normal_7 ?_
    refine lv_aload_n hx hb dB_normal_10 rfl (lv_at hl 1 rfl) ?_
    refine lv_iload_n hx hb dB_normal_11 rfl (lv_at hl 3 rfl) ?_
    refine ct_VX (n := 1) hE hI (kB_register hl0 h a) h0 rfl gm_B32 gi_B_register gs_B_B_register gz_B gc_B_register (by decide +kernel) ⟨Nat.le_of_ble_eq_true rfl, Nat.le_of_ble_eq_true rfl⟩ rfl hl.1 rfl (Nat.le_of_ble_eq_true rfl) dB_normal_12 ⟨Nat.le_of_ble_eq_true rfl, Nat.le_of_ble_eq_true rfl⟩ (fun v w1 H locs hq hI => ?_) (fun E q ce w1 H locs ht hI hq hv hcl => ?_)
    · obtain ⟨hw, x, hrx, rfl⟩ := hq
      subst w1
      obtain ⟨hx16, -⟩ := rk_some hrx
      show W _ _ _ _ _ _ _ _ _ _ _ _ _ _ _ (F0 _ _ _ [.ref _, .ref _])
      obtain ⟨cx, hRx⟩ := h.reg hx16
      obtain ⟨M, hS⟩ := h.S
      refine lv_iconst (v := 0) hx hb dB_normal_15 (by decide) ?_
      refine ct_VX (n := 2) hE hI (kS_reduce hl0 (hd := false) (t := σ x) h.1 h.2.2.2.1 hx16 hRx (h.ok hx16) (by decide)) hS.1 rfl gm_B85 gi_S_reduce gs_S_S_reduce gz_S gc_S_reduce (by decide +kernel) ⟨Nat.le_of_ble_eq_true rfl, Nat.le_of_ble_eq_true rfl⟩ rfl hl.1 rfl (Nat.le_of_ble_eq_true rfl) dB_normal_16 ⟨Nat.le_of_ble_eq_true rfl, Nat.le_of_ble_eq_true rfl⟩ (fun v w1 H locs hq hI => ?_) (fun E q ce w1 H locs ht hI hq hv hcl => ?_)
      · obtain ⟨n, u, mi', hrd, rfl, ho, hG1, hRm, hok⟩ := hq
        have er : op_all false σ to a = (0, n, su σ t u) := by unfold op_all; simp only [hrt, hrx, hrd]
        have h1 := h.ws ho hG1
        have h10 := h1.2.1
        obtain ⟨M1, hS1⟩ := h1.S
        obtain ⟨ct, hRt⟩ := h1.reg ht16
        obtain ⟨_, kT, -⟩ := hRt.out
        show W _ _ _ _ _ _ _ _ _ _ _ _ _ _ _ (F0 _ _ _ [.int _])
        refine lv_istore hx hb dB_normal_19 hl (by decide) rfl (fun ls hl => ?_)
        refine lv_aload_n hx hb dB_normal_21 rfl (lv_at hl 1 rfl) ?_
        refine lv_aload_n hx hb dB_normal_22 rfl (lv_at hl 2 rfl) ?_
        refine mp_get hE.1 hI h10 rfl gx_B 1 (by decide) (List.mem_cons_of_mem _ gf_B21) rfl dB_normal_23 ?_
        refine ct_V (n := 0) hE hI (kS_reduced hS1.1) hS1.1 rfl gm_B89 gi_S_reduced gs_S_S_reduced gz_S gc_S_reduced (by decide +kernel) ⟨Nat.le_of_ble_eq_true rfl, Nat.le_of_ble_eq_true rfl⟩ rfl hl.1 rfl (Nat.le_of_ble_eq_true rfl) dB_normal_26 ⟨Nat.le_of_ble_eq_true rfl, Nat.le_of_ble_eq_true rfl⟩ (fun v w2 H locs hq hI => ?_)
        obtain ⟨hw, rfl⟩ := hq
        subst w2
        show W _ _ _ _ _ _ _ _ _ _ _ _ _ _ _ (F0 _ _ _ [.ref _, .ref _])
        refine ct_V (n := 1) hE hI (kT_become hRt.V hRm) kT rfl gm_B46 gi_T_become gs_T_T_become gz_T gc_T_become (by decide +kernel) ⟨Nat.le_of_ble_eq_true rfl, Nat.le_of_ble_eq_true rfl⟩ rfl hl.1 rfl (Nat.le_of_ble_eq_true rfl) dB_normal_29 ⟨Nat.le_of_ble_eq_true rfl, Nat.le_of_ble_eq_true rfl⟩ (fun v w2 H locs hq hI => ?_)
        obtain ⟨rfl, ar', cap', har, -, ho2, hR2⟩ := hq
        show W _ _ _ _ _ _ _ _ _ _ _ _ _ _ _ (F0 _ _ _ [.int _])
        refine lv_pop hx hb dB_normal_32 rfl ?_
        refine lv_iload hx hb dB_normal_33 (lv_at hl 0 rfl) ?_
        refine vx_ret (ct_iret hE hI hr hk ⟨by rw [er], by rw [er], ?_⟩ (by decide) (by decide) dB_normal_35)
        rw [er]
        exact bx.set h ho h1 ht16 har ho2 hR2 hok
      · obtain ⟨mi', hE1, ho, hG1⟩ := ht
        rcases hE1 with ⟨rfl, hrd⟩ | ⟨rfl, hrd⟩
        · have er : op_all false σ to a = (2, 0, σ) := by unfold op_all; simp only [hrt, hrx, hrd]
          exact ct_out hI hout hk hq hv hcl ⟨by rw [er]; simp, by rw [er]; rfl, by rw [er]; exact bx.ws h ho hG1⟩ (by decide) (by decide)
        · have er : op_all false σ to a = (3, 0, σ) := by unfold op_all; simp only [hrt, hrx, hrd]
          exact ct_out hI hout hk hq hv hcl ⟨by rw [er]; simp, by rw [er]; rfl, by rw [er]; exact bx.ws h ho hG1⟩ (by decide) (by decide)
    · obtain ⟨hw, hE1, hrx⟩ := ht
      subst w1
      have er : op_all false σ to a = (1, 0, σ) := by unfold op_all; rw [hrt, hrx]
      exact ct_out hI hout hk hq hv hcl ⟨by rw [er]; simp, by rw [er]; exact hE1, by rw [er]; exact bx.rf h⟩ (Nat.le_of_ble_eq_true rfl) (Nat.le_of_ble_eq_true rfl)
  · obtain ⟨hw, hE1, hrt⟩ := ht
    subst w1
    have er : op_all false σ to a = (1, 0, σ) := by unfold op_all; rw [hrt]
    exact ct_out hI hout hk hq hv hcl ⟨by rw [er]; simp, by rw [er]; exact hE1, by rw [er]; exact bx.rf h⟩ (Nat.le_of_ble_eq_true rfl) (Nat.le_of_ble_eq_true rfl)
set_option maxRecDepth 100000 in
theorem kB_same (hl0 : l.stackTraces = false) (h : iv_B K w f mi σ bc out) (a b : Int32) : ct_X l n0 D K yB_same (Cond.code yB_same cB_same 3 (some .boolean)) 7 120 2 12 [.ref (f 0), .int a, .int b] w (po_B K w f bc out (op_same σ a b)) (th_B K w f bc out ex_1 (op_same σ a b)) := by
  have h0 := h.2.1
  refine ct_goX (own := nm_B) (by decide) rfl (Nat.le_of_ble_eq_true rfl) ?_
  intro p e s m below meth c ls hE hI hr hk hout hl
  have hx := hE.1.1.1
  have hb := hE.1.1.2.1
  have hl : lv_has ls 3 [(0, .ref (f 0)), (1, .int a), (2, .int b)] := hl
  refine lv_aload_n hx hb dB_same_0 rfl (lv_at hl 0 rfl) ?_
  refine lv_iload_n hx hb dB_same_1 rfl (lv_at hl 1 rfl) ?_
  refine ct_VX (n := 1) hE hI (kB_register hl0 h a) h0 rfl gm_B32 gi_B_register gs_B_B_register gz_B gc_B_register (by decide +kernel) ⟨Nat.le_of_ble_eq_true rfl, Nat.le_of_ble_eq_true rfl⟩ rfl hl.1 rfl (Nat.le_of_ble_eq_true rfl) dB_same_2 ⟨Nat.le_of_ble_eq_true rfl, Nat.le_of_ble_eq_true rfl⟩ (fun v w1 H locs hq hI => ?_) (fun E q ce w1 H locs ht hI hq hv hcl => ?_)
  · obtain ⟨hw, x, hrx, rfl⟩ := hq
    subst w1
    obtain ⟨hx16, -⟩ := rk_some hrx
    show W _ _ _ _ _ _ _ _ _ _ _ _ _ _ _ (F0 _ _ _ [.ref _])
    refine lv_aload_n hx hb dB_same_5 rfl (lv_at hl 0 rfl) ?_
    refine lv_iload_n hx hb dB_same_6 rfl (lv_at hl 2 rfl) ?_
    refine ct_VX (n := 1) hE hI (kB_register hl0 h b) h0 rfl gm_B32 gi_B_register gs_B_B_register gz_B gc_B_register (by decide +kernel) ⟨Nat.le_of_ble_eq_true rfl, Nat.le_of_ble_eq_true rfl⟩ rfl hl.1 rfl (Nat.le_of_ble_eq_true rfl) dB_same_7 ⟨Nat.le_of_ble_eq_true rfl, Nat.le_of_ble_eq_true rfl⟩ (fun v w1 H locs hq hI => ?_) (fun E q ce w1 H locs ht hI hq hv hcl => ?_)
    · obtain ⟨hw, y, hry, rfl⟩ := hq
      subst w1
      obtain ⟨hy16, -⟩ := rk_some hry
      show W _ _ _ _ _ _ _ _ _ _ _ _ _ _ _ (F0 _ _ _ [.ref _, .ref _])
      obtain ⟨cx, hRx⟩ := h.reg hx16
      obtain ⟨cy, hRy⟩ := h.reg hy16
      obtain ⟨_, kT, -⟩ := hRx.out
      have er : op_same σ a b = (0, if tm_db (σ x) [] = tm_db (σ y) [] then 1 else 0, σ) := by unfold op_same; rw [hrx, hry]
      refine ct_V (n := 1) hE hI (kT_equalTo hRx hRy) kT rfl gm_B93 gi_T_equalTo gs_T_T_equalTo gz_T gc_T_equalTo (by decide +kernel) ⟨Nat.le_of_ble_eq_true rfl, Nat.le_of_ble_eq_true rfl⟩ rfl hl.1 rfl (Nat.le_of_ble_eq_true rfl) dB_same_10 ⟨Nat.le_of_ble_eq_true rfl, Nat.le_of_ble_eq_true rfl⟩ (fun v w1 H locs hq hI => ?_)
      obtain ⟨hw, rfl⟩ := hq
      subst w1
      show W _ _ _ _ _ _ _ _ _ _ _ _ _ _ _ (F0 _ _ _ [.int _])
      refine vx_ret (ct_zret hE hI hr hk (by split; exact Or.inr rfl; exact Or.inl rfl) ⟨by rw [er], ?_, by rw [er]; exact bx.rf h⟩ (by decide) (by decide) dB_same_13)
      rw [er]
      show some (Value.int _) = some (Value.int (nI (if tm_db (σ x) [] = tm_db (σ y) [] then 1 else 0)))
      split <;> rfl
    · obtain ⟨hw, hE1, hry⟩ := ht
      subst w1
      have er : op_same σ a b = (1, 0, σ) := by unfold op_same; rw [hrx, hry]
      exact ct_out hI hout hk hq hv hcl ⟨by rw [er]; simp, by rw [er]; exact hE1, by rw [er]; exact bx.rf h⟩ (Nat.le_of_ble_eq_true rfl) (Nat.le_of_ble_eq_true rfl)
  · obtain ⟨hw, hE1, hrx⟩ := ht
    subst w1
    have er : op_same σ a b = (1, 0, σ) := by unfold op_same; rw [hrx]
    exact ct_out hI hout hk hq hv hcl ⟨by rw [er]; simp, by rw [er]; exact hE1, by rw [er]; exact bx.rf h⟩ (Nat.le_of_ble_eq_true rfl) (Nat.le_of_ble_eq_true rfl)
end KB4
end
section
/-! the face: about, has, write, out -/
def tm_kind : Std.Format → Nat
  | .append _ _ => 1
  | .tag _ _ => 2
  | _ => 0
def ab_v (t : Std.Format) : Nat → Nat
  | 0 => tm_sz t
  | 1 => tm_dp t
  | 2 => tm_kind t
  | 3 => nc_n (fun i => decide ((i : Int) ∈ tm_db t [])) 100
  | _ => nc_n (pt_rxb (tm_db t [])) (tm_sz t - 1)
def op_about (σ : Nat → Std.Format) (a what : Int32) : oR := match rk a with
  | some x => if 0 ≤ what.toInt ∧ what.toInt ≤ 4 then (0, ab_v (σ x) what.toInt.toNat, σ) else (2, 0, σ)
  | none => (1, 0, σ)
def op_has (σ : Nat → Std.Format) (a n : Int32) : oR := match rk a, fk n with
  | some x, some k => (0, nc_n (fun i => decide ((tm_db (σ x) [])[i]? = some (k : Int))) (tm_sz (σ x)), σ)
  | _, _ => (1, 0, σ)
/-- OUT, and what writing costs -/
def wr_o (σ : Nat → Std.Format) (out : List Int) (a : Int32) : List Int := match rk a with
  | some x => tm_tx (σ x) []
  | none => out
def wr_b (σ : Nat → Std.Format) (bc : Nat) (a : Int32) : Nat := match rk a with
  | some x => tx_b bc 0 (tx_ad (tm_db (σ x) []) ([], 0))
  | none => bc
def wr_c (σ : Nat → Std.Format) (bc : Nat) (a : Int32) : Nat := match rk a with
  | some x => 1 + tx_c bc 0 (tx_ad (tm_db (σ x) []) ([], 0))
  | none => 1
def wr_s (σ : Nat → Std.Format) (bc : Nat) (a : Int32) : Nat := match rk a with
  | some x => 6 + tx_s bc 0 (tx_ad (tm_db (σ x) []) ([], 0))
  | none => 6
theorem tx_top {t : Std.Format} (hok : tm_ok t) {bc : Nat} (h1 : bc ≤ 1000000) : tx_b bc 0 (tx_ad (tm_db t []) ([], 0)) ≤ 1000000 ∧ bc ≤ tx_b bc 0 (tx_ad (tm_db t []) ([], 0)) := by
  obtain ⟨hs, -, hz, hd⟩ := hok
  have hsum : (tx_ad (tm_db t []) ([], 0)).sum ≤ 300000 := by
    rw [← tx_ad_sum _ _ (fun x hx => (tm_db_b hs hz x hx).1), tm_sh_tx hd hs]
    have := tm_tx_len t [] (by show 0 + _ ≤ 150; omega) hs
    have : tm_sz t * 150 ≤ 2000 * 150 := Nat.mul_le_mul_right _ hz
    omega
  have := tx_b_le (T := 300000) (tx_ad (tm_db t []) ([], 0)) bc 0 (Nat.zero_le _) (by omega)
  omega
theorem wr_le {K : Nat → ClassId} {w : mp_W} {f : Nat → Nat} {mi bc : Nat} {σ : Nat → Std.Format} {out : List Int} (h : iv_B K w f mi σ bc out) (a : Int32) : wr_c σ bc a + bc ≤ 1 + wr_b σ bc a ∧ wr_s σ bc a + 2 * bc ≤ 6 + 2 * wr_b σ bc a ∧ wr_b σ bc a ≤ 1000000 := by
  unfold wr_c wr_s wr_b
  cases hr : rk a with
  | none => exact ⟨Nat.le_refl _, Nat.le_refl _, h.2.2.2.2.2.2.2.2⟩
  | some x =>
    obtain ⟨h16, -⟩ := rk_some hr
    have h1 := tx_pay (tx_ad (tm_db (σ x) []) ([], 0)) bc 0 h.2.2.2.2.2.2.2.1
    have h2 := tx_top (h.ok h16) h.2.2.2.2.2.2.2.2
    simp only []
    omega
theorem pt_R.kp {K : Nat → ClassId} {w w' : mp_W} {t ar cap : Nat} {L : List Int} {S : List Nat} (h : pt_R K w t ar cap L) (ho : ke S w w') (h1 : t ∉ S) (h2 : ar ∉ S) : pt_R K w' t ar cap L := ⟨h.1.kp ho h1 h2, h.2⟩
theorem pt_V.kp {K : Nat → ClassId} {w w' : mp_W} {t ar cap : Nat} {S : List Nat} (h : pt_V K w t ar cap) (ho : ke S w w') (h1 : t ∉ S) (h2 : ar ∉ S) : pt_V K w' t ar cap := by
  obtain ⟨n, g, a1, a2, a3⟩ := h
  exact ⟨n, g, ho _ _ a1 h1, ho _ _ a2 h2, a3⟩
/-- OUT was written -/
theorem bx.wr {K : Nat → ClassId} {w w' : mp_W} {f : Nat → Nat} {mi : Nat} {σ : Nat → Std.Format} {bc ba bc' : Nat} {out out' : List Int} {u : List Nat × Nat} (h : iv_B K w f mi σ bc out) (hba : ba = f 4 ∨ w ba = none) (ho : kd [f 3, f 4, f 11, f 12] w w') (hY : pt_Y K w' (f 3) ba (f 11) bc' out') (hW : pt_W K w' (f 11) (f 12) 1 0 u) (hb1 : 64 ≤ bc') (hb2 : bc' ≤ 1000000) : bx K w f w' σ bc' out' := by
  have hd := h.dom
  obtain ⟨hf, h0, ⟨g, h1, h1'⟩, ⟨hm, ⟨M, hS, hT, ⟨u1, W1⟩, ⟨u2, W2⟩, u3, W3⟩, hV⟩, hr, -, -, -⟩ := h
  have hn : ∀ j, j < 49 → j ≠ 3 → j ≠ 4 → j ≠ 11 → j ≠ 12 → f j ∉ [f 3, f 4, f 11, f 12] := fun j hj a1 a2 a3 a4 => hf.nin hj [3, 4, 11, 12] (by intro b hb; simp at hb; omega)
  have ek : ∀ j, j ≠ 4 → fu f 4 ba j = f j := fun j h => fu_ne h
  have ho := ho.1
  refine ⟨fu f 4 ba, mi, ⟨ph_fu (w := w) hf hd hba, ?_, ⟨g, ?_, fun i hi => ?_⟩, ⟨hm, ⟨M, ?_, ?_, ⟨u1, ?_⟩, ⟨u2, ?_⟩, u3, ?_⟩, ?_⟩, fun i hi => ?_, ?_, ⟨u, ?_⟩, hb1, hb2⟩, fu_ne (by omega), fun j hj => ?_, fun q x hq hnn => ?_⟩
  · rw [ek 0 (by omega), ek 1 (by omega), ek 2 (by omega), ek 3 (by omega)]; exact ho _ _ h0 (hn 0 (by omega) (by omega) (by omega) (by omega) (by omega))
  · rw [ek 1 (by omega)]; exact ho _ _ h1 (hn 1 (by omega) (by omega) (by omega) (by omega) (by omega))
  · rw [ek _ (by omega)]; exact h1' i hi
  · show w' (fu f 4 ba 2) = some (.inr (3, [.ref (fu f 4 ba (13 + 2 * mi)), .ref (fu f 4 ba (13 + 2 * (33 - mi))), .ref (fu f 4 ba 5), .ref (fu f 4 ba 7), .ref (fu f 4 ba 9)]))
    rw [ek 2 (by omega), ek _ (by omega), ek _ (by omega), ek 5 (by omega), ek 7 (by omega), ek 9 (by omega)]; exact ho _ _ hS (hn 2 (by omega) (by omega) (by omega) (by omega) (by omega))
  · rw [ek _ (by omega), ek _ (by omega)]; exact hT.kp ho (hn _ (by omega) (by omega) (by omega) (by omega) (by omega)) (hn _ (by omega) (by omega) (by omega) (by omega) (by omega))
  · rw [ek 5 (by omega), ek 6 (by omega)]; exact W1.kp ho (hn _ (by omega) (by omega) (by omega) (by omega) (by omega)) (hn _ (by omega) (by omega) (by omega) (by omega) (by omega))
  · rw [ek 7 (by omega), ek 8 (by omega)]; exact W2.kp ho (hn _ (by omega) (by omega) (by omega) (by omega) (by omega)) (hn _ (by omega) (by omega) (by omega) (by omega) (by omega))
  · rw [ek 9 (by omega), ek 10 (by omega)]; exact W3.kp ho (hn _ (by omega) (by omega) (by omega) (by omega) (by omega)) (hn _ (by omega) (by omega) (by omega) (by omega) (by omega))
  · rw [ek _ (by omega), ek _ (by omega)]; exact hV.kp ho (hn _ (by omega) (by omega) (by omega) (by omega) (by omega)) (hn _ (by omega) (by omega) (by omega) (by omega) (by omega))
  · rw [ek _ (by omega), ek _ (by omega)]
    obtain ⟨⟨cap2, hR2⟩, hk⟩ := hr i hi
    exact ⟨⟨cap2, hR2.kp ho (hn _ (by omega) (by omega) (by omega) (by omega) (by omega)) (hn _ (by omega) (by omega) (by omega) (by omega) (by omega))⟩, hk⟩
  · rw [ek 3 (by omega), fu_self, ek 11 (by omega)]; exact hY
  · rw [ek 11 (by omega), ek 12 (by omega)]; exact hW
  · by_cases e : j = 4
    · subst e
      rw [fu_self]
      exact hba
    · exact Or.inl (fu_ne e)
  · exact ho q x hq (by simp; exact ⟨hnn 3 (by omega), hnn 4 (by omega), hnn 11 (by omega), hnn 12 (by omega)⟩)
section KB5
variable {l : Launch} {n0 : Nat} {D : va_G} {K : Nat → ClassId} {w : mp_W} {f : Nat → Nat} {mi bc : Nat} {σ : Nat → Std.Format} {out : List Int}
set_option maxRecDepth 100000 in
theorem kB_has (hl0 : l.stackTraces = false) (h : iv_B K w f mi σ bc out) (a n : Int32) : ct_X l n0 D K yB_has (Cond.code yB_has cB_has 4 (some .int)) 7 120 2 12 [.ref (f 0), .int a, .int n] w (po_B K w f bc out (op_has σ a n)) (th_B K w f bc out ex_1 (op_has σ a n)) := by
  have h0 := h.2.1
  refine ct_goX (own := nm_B) (by decide) rfl (Nat.le_of_ble_eq_true rfl) ?_
  intro p e s m below meth c ls hE hI hr hk hout hl
  have hx := hE.1.1.1
  have hb := hE.1.1.2.1
  have hl : lv_has ls 4 [(0, .ref (f 0)), (1, .int a), (2, .int n)] := hl
  refine lv_aload_n hx hb dB_has_0 rfl (lv_at hl 0 rfl) ?_
  refine lv_iload_n hx hb dB_has_1 rfl (lv_at hl 1 rfl) ?_
  refine ct_VX (n := 1) hE hI (kB_register hl0 h a) h0 rfl gm_B32 gi_B_register gs_B_B_register gz_B gc_B_register (by decide +kernel) ⟨Nat.le_of_ble_eq_true rfl, Nat.le_of_ble_eq_true rfl⟩ rfl hl.1 rfl (Nat.le_of_ble_eq_true rfl) dB_has_2 ⟨Nat.le_of_ble_eq_true rfl, Nat.le_of_ble_eq_true rfl⟩ (fun v w1 H locs hq hI => ?_) (fun E q ce w1 H locs ht hI hq hv hcl => ?_)
  · obtain ⟨hw, x, hrx, rfl⟩ := hq
    subst w1
    obtain ⟨hx16, -⟩ := rk_some hrx
    show W _ _ _ _ _ _ _ _ _ _ _ _ _ _ _ (F0 _ _ _ [.ref _])
    obtain ⟨cx, hRx⟩ := h.reg hx16
    obtain ⟨_, kT, -⟩ := hRx.out
    refine lv_astore_n hx hb dB_has_5 rfl hl (by decide) rfl (fun ls hl => ?_)
    refine lv_iload_n hx hb dB_has_6 rfl (lv_at hl 3 rfl) ?_
    refine ct_StX (n := 1) hE hI (kB_checkFree hl0 n) gm_B36 gt_B_checkFree gz_B gc_B_checkFree (by decide +kernel) ⟨Nat.le_of_ble_eq_true rfl, Nat.le_of_ble_eq_true rfl⟩ rfl hl.1 rfl (Nat.le_of_ble_eq_true rfl) dB_has_7 ⟨Nat.le_of_ble_eq_true rfl, Nat.le_of_ble_eq_true rfl⟩ (fun v w1 H locs hq hI => ?_) (fun E q ce w1 H locs ht hI hq hv hcl => ?_)
    · obtain ⟨hw, rfl, k, hfk⟩ := hq
      subst w1
      obtain ⟨hk100, hnk⟩ := fk_some hfk
      have hn' : n = ci_i (k : Int) := by rw [hnk, ci_nat]
      have er : op_has σ a n = (0, nc_n (fun i => decide ((tm_db (σ x) [])[i]? = some (k : Int))) (tm_sz (σ x)), σ) := by unfold op_has; rw [hrx, hfk]
      rw [hn'] at hl
      show W _ _ _ _ _ _ _ _ _ _ _ _ _ _ _ (F0 _ _ _ [])
      refine lv_aload_n hx hb dB_has_10 rfl (lv_at hl 0 rfl) ?_
      refine lv_iload_n hx hb dB_has_11 rfl (lv_at hl 3 rfl) ?_
      refine ct_V (n := 1) hE hI (kT_places (z := (k : Int)) hRx (by omega)) kT rfl gm_B115 gi_T_places gs_T_T_places gz_T gc_T_places (by decide +kernel) ⟨Nat.le_of_ble_eq_true rfl, Nat.le_of_ble_eq_true rfl⟩ rfl hl.1 rfl (Nat.le_of_ble_eq_true rfl) dB_has_12 ⟨Nat.le_of_ble_eq_true rfl, Nat.le_of_ble_eq_true rfl⟩ (fun v w1 H locs hq hI => ?_)
      obtain ⟨hw, rfl⟩ := hq
      subst w1
      show W _ _ _ _ _ _ _ _ _ _ _ _ _ _ _ (F0 _ _ _ [.int _])
      exact vx_ret (ct_iret hE hI hr hk ⟨by rw [er], by rw [er, tm_db_len], by rw [er]; exact bx.rf h⟩ (by decide) (by decide) dB_has_15)
    · obtain ⟨hw, hE1, hfk⟩ := ht
      subst w1
      have er : op_has σ a n = (1, 0, σ) := by unfold op_has; rw [hrx, hfk]
      exact ct_out hI hout hk hq hv hcl ⟨by rw [er]; simp, by rw [er]; exact hE1, by rw [er]; exact bx.rf h⟩ (Nat.le_of_ble_eq_true rfl) (Nat.le_of_ble_eq_true rfl)
  · obtain ⟨hw, hE1, hrx⟩ := ht
    subst w1
    have er : op_has σ a n = (1, 0, σ) := by unfold op_has; rw [hrx]
    exact ct_out hI hout hk hq hv hcl ⟨by rw [er]; simp, by rw [er]; exact hE1, by rw [er]; exact bx.rf h⟩ (Nat.le_of_ble_eq_true rfl) (Nat.le_of_ble_eq_true rfl)
set_option maxRecDepth 100000 in
set_option maxHeartbeats 1000000 in
theorem kB_about (hl0 : l.stackTraces = false) (h : iv_B K w f mi σ bc out) (a what : Int32) : ct_X l n0 D K yB_about (Cond.code yB_about cB_about 4 (some .int)) 7 120 2 12 [.ref (f 0), .int a, .int what] w (po_B K w f bc out (op_about σ a what)) (th_B K w f bc out ex_2 (op_about σ a what)) := by
  have h0 := h.2.1
  obtain ⟨M, hS⟩ := h.S
  refine ct_goX (own := nm_B) (by decide) rfl (Nat.le_of_ble_eq_true rfl) ?_
  intro p e s m below meth c ls hE hI hr hk hout hl
  have hx := hE.1.1.1
  have hb := hE.1.1.2.1
  have hl : lv_has ls 4 [(0, .ref (f 0)), (1, .int a), (2, .int what)] := hl
  refine lv_aload_n hx hb dB_about_0 rfl (lv_at hl 0 rfl) ?_
  refine lv_iload_n hx hb dB_about_1 rfl (lv_at hl 1 rfl) ?_
  refine ct_VX (n := 1) hE hI (kB_register hl0 h a) h0 rfl gm_B32 gi_B_register gs_B_B_register gz_B gc_B_register (by decide +kernel) ⟨Nat.le_of_ble_eq_true rfl, Nat.le_of_ble_eq_true rfl⟩ rfl hl.1 rfl (Nat.le_of_ble_eq_true rfl) dB_about_2 ⟨Nat.le_of_ble_eq_true rfl, Nat.le_of_ble_eq_true rfl⟩ (fun v w1 H locs hq hI => ?_) (fun E q ce w1 H locs ht hI hq hv hcl => ?_)
  · obtain ⟨hw, x, hrx, rfl⟩ := hq
    subst w1
    obtain ⟨hx16, -⟩ := rk_some hrx
    show W _ _ _ _ _ _ _ _ _ _ _ _ _ _ _ (F0 _ _ _ [.ref _])
    obtain ⟨cx, hRx⟩ := h.reg hx16
    obtain ⟨_, kT, -⟩ := hRx.out
    have okx := h.ok hx16
    have h1 : 1 ≤ (tm_db (σ x) []).length := by rw [tm_db_len]; exact tm_sz_pos _
    refine lv_astore_n hx hb dB_about_5 rfl hl (by decide) rfl (fun ls hl => ?_)
    refine lv_iload_n hx hb dB_about_6 rfl (lv_at hl 3 rfl) ?_
    by_cases hw0 : 0 ≤ what.toInt ∧ what.toInt ≤ 4
    · have er : op_about σ a what = (0, ab_v (σ x) what.toInt.toNat, σ) := by unfold op_about; simp only [hrx]; rw [if_pos hw0]
      obtain ⟨k, hk0⟩ : ∃ k : Nat, what.toInt = (k : Int) := ⟨what.toInt.toNat, by omega⟩
      have hk5 : k < 5 := by omega
      have hkk : what.toInt.toNat = k := by omega
      rw [hkk] at er
      have hoff : (what.toInt - 0).toNat = k := by omega
      have hk5' : k = 0 ∨ k = 1 ∨ k = 2 ∨ k = 3 ∨ k = 4 := by omega
      rcases hk5' with rfl | rfl | rfl | rfl | rfl
      · refine lv_tableIn (tgt := 40) (off := 33) hx hb dB_about_7 (by omega) (by omega) (by rw [hoff]; rfl) (by decide) ?_
        refine lv_aload_n hx hb dB_about_40 rfl (lv_at hl 0 rfl) ?_
        refine mp_getN hE.1 hI kT rfl gx_T 1 (by decide) (ct_nw hE (q := ("BindingBench", 97, "BindingBench$Term", "size", "I")) (by decide +kernel)) rfl dB_about_41 ?_
        rw [tm_db_len]
        exact vx_ret (ct_iret hE hI hr hk ⟨by rw [er], by rw [er]; rfl, by rw [er]; exact bx.rf h⟩ (by decide) (by decide) dB_about_44)
      · refine lv_tableIn (tgt := 45) (off := 38) hx hb dB_about_7 (by omega) (by omega) (by rw [hoff]; rfl) (by decide) ?_
        obtain ⟨-, hT, ⟨u1, W1⟩, ⟨u2, W2⟩, u3, W3⟩ := id hS
        refine lv_aload_n hx hb dB_about_45 rfl (lv_at hl 1 rfl) ?_
        refine mp_get hE.1 hI h0 rfl gx_B 1 (by decide) (List.mem_cons_of_mem _ gf_B21) rfl dB_about_46 ?_
        refine lv_aload_n hx hb dB_about_49 rfl (lv_at hl 0 rfl) ?_
        refine ct_V (n := 1) hE hI (kS_depth h.1 hS.1 (i := x) (by omega) hRx W1) hS.1 rfl gm_B101 gi_S_depth gs_S_S_depth gz_S gc_S_depth (by decide +kernel) ⟨Nat.le_of_ble_eq_true rfl, Nat.le_of_ble_eq_true rfl⟩ rfl hl.1 rfl (Nat.le_of_ble_eq_true rfl) dB_about_50 ⟨Nat.le_of_ble_eq_true rfl, Nat.le_of_ble_eq_true rfl⟩ (fun v w1 H locs hq hI => ?_)
        obtain ⟨rfl, ho, u, hW⟩ := hq
        show W _ _ _ _ _ _ _ _ _ _ _ _ _ _ _ (F0 _ _ _ [.int _])
        rw [(tm_dd_dp (σ x) []).1 okx.2.2.2]
        refine vx_ret (ct_iret hE hI hr hk ⟨by rw [er], by rw [er]; rfl, ?_⟩ (by decide) (by decide) dB_about_53)
        rw [er]
        have hm := h.2.2.2.1.1
        have hf := h.1
        have n5 : ∀ j, j < 49 → j ≠ 5 → j ≠ 6 → f j ∉ [f 5, f 6] := fun j hj a1 a2 => hf.nin hj [5, 6] (by intro b hb; simp at hb; omega)
        have hoS : mp_off (fp_S f mi) w w1 := ho.mono (by simp)
        refine bx.ws h (fp_G_S hm hoS) (pt_G.of h.1 h.2.2.2.1 hoS (M := M) ⟨by rw [ho _ (n5 2 (by omega) (by omega) (by omega))]; exact hS.1, hT.off ho (n5 _ (by omega) (by omega) (by omega)) (n5 _ (by omega) (by omega) (by omega)), ⟨u, hW⟩, ⟨u2, W2.off ho (n5 _ (by omega) (by omega) (by omega)) (n5 _ (by omega) (by omega) (by omega))⟩, u3, W3.off ho (n5 _ (by omega) (by omega) (by omega)) (n5 _ (by omega) (by omega) (by omega))⟩)
      · refine lv_tableIn (tgt := 54) (off := 47) hx hb dB_about_7 (by omega) (by omega) (by rw [hoff]; rfl) (by decide) ?_
        obtain ⟨x0, e0, e1, e2⟩ := tm_hd (σ x)
        refine lv_aload_n hx hb dB_about_54 rfl (lv_at hl 0 rfl) ?_
        refine ct_V (n := 0) hE hI (kT_kind hRx e0) kT rfl gm_B104 gi_T_kind gs_T_T_kind gz_T gc_T_kind (by decide +kernel) ⟨Nat.le_of_ble_eq_true rfl, Nat.le_of_ble_eq_true rfl⟩ rfl hl.1 rfl (Nat.le_of_ble_eq_true rfl) dB_about_55 ⟨Nat.le_of_ble_eq_true rfl, Nat.le_of_ble_eq_true rfl⟩ (fun v w1 H locs hq hI => ?_)
        obtain ⟨hw, rfl⟩ := hq
        subst w1
        show W _ _ _ _ _ _ _ _ _ _ _ _ _ _ _ (F0 _ _ _ [.int _])
        refine vx_ret (ct_iret hE hI hr hk ⟨by rw [er], ?_, by rw [er]; exact bx.rf h⟩ (by decide) (by decide) dB_about_58)
        rw [er]
        show some (Value.int _) = some (Value.int (nI (tm_kind (σ x))))
        by_cases c1 : x0 = -1
        · obtain ⟨p, q, ex⟩ := e2.mp c1
          rw [if_pos c1, ex]
          rfl
        · rw [if_neg c1]
          by_cases c2 : x0 = -2
          · obtain ⟨j, cc, ex⟩ := e1.mp c2
            rw [if_pos c2, ex]
            rfl
          · rw [if_neg c2]
            have : tm_kind (σ x) = 0 := by
              rcases tm_cases (σ x) with hlf | ⟨j, c, e⟩ | ⟨p, q, e⟩
              · cases hz : σ x <;> first | rfl | (rw [hz] at hlf; cases hlf)
              · exact absurd (e1.mpr ⟨j, c, e⟩) c2
              · exact absurd (e2.mpr ⟨p, q, e⟩) c1
            rw [this]
            rfl
      · refine lv_tableIn (tgt := 59) (off := 52) hx hb dB_about_7 (by omega) (by omega) (by rw [hoff]; rfl) (by decide) ?_
        refine lv_aload_n hx hb dB_about_59 rfl (lv_at hl 0 rfl) ?_
        refine ct_V (n := 0) hE hI (kT_differentFree hRx) kT rfl gm_B107 gi_T_differentFree gs_T_T_differentFree gz_T gc_T_differentFree (by decide +kernel) ⟨Nat.le_of_ble_eq_true rfl, Nat.le_of_ble_eq_true rfl⟩ rfl hl.1 rfl (Nat.le_of_ble_eq_true rfl) dB_about_60 ⟨Nat.le_of_ble_eq_true rfl, Nat.le_of_ble_eq_true rfl⟩ (fun v w1 H locs hq hI => ?_)
        obtain ⟨hw, rfl⟩ := hq
        subst w1
        show W _ _ _ _ _ _ _ _ _ _ _ _ _ _ _ (F0 _ _ _ [.int _])
        exact vx_ret (ct_iret hE hI hr hk ⟨by rw [er], by rw [er]; rfl, by rw [er]; exact bx.rf h⟩ (by decide) (by decide) dB_about_63)
      · refine lv_tableIn (tgt := 64) (off := 57) hx hb dB_about_7 (by omega) (by omega) (by rw [hoff]; rfl) (by decide) ?_
        refine lv_aload_n hx hb dB_about_64 rfl (lv_at hl 0 rfl) ?_
        refine ct_V (n := 0) hE hI (kT_redexes hRx h1) kT rfl gm_B110 gi_T_redexes gs_T_T_redexes gz_T gc_T_redexes (by decide +kernel) ⟨Nat.le_of_ble_eq_true rfl, Nat.le_of_ble_eq_true rfl⟩ rfl hl.1 rfl (Nat.le_of_ble_eq_true rfl) dB_about_65 ⟨Nat.le_of_ble_eq_true rfl, Nat.le_of_ble_eq_true rfl⟩ (fun v w1 H locs hq hI => ?_)
        obtain ⟨hw, rfl⟩ := hq
        subst w1
        show W _ _ _ _ _ _ _ _ _ _ _ _ _ _ _ (F0 _ _ _ [.int _])
        rw [tm_db_len]
        exact vx_ret (ct_iret hE hI hr hk ⟨by rw [er], by rw [er]; rfl, by rw [er]; exact bx.rf h⟩ (by decide) (by decide) dB_about_68)
    · have er : op_about σ a what = (2, 0, σ) := by unfold op_about; simp only [hrx]; rw [if_neg hw0]
      refine lv_tableOut (tgt := 69) hx hb dB_about_7 (by omega) (by decide) ?_
      exact ct_throw hE hl0 hI (cls := "java/lang/IllegalArgumentException") (text := "another what") (names := ["java/lang/RuntimeException", "java/lang/Exception"]) (ic := 66) (by decide +kernel) (by decide +kernel) gk_B62 gz_Jg (by decide +kernel) oa_B62_66 og_B62_66 hl.1 dB_about_69 dB_about_72 dB_about_73 dB_about_75 dB_about_78 hout (Nat.le_of_ble_eq_true rfl) (Nat.le_of_ble_eq_true rfl) (Nat.le_of_ble_eq_true rfl) (Nat.le_of_ble_eq_true rfl) hk ⟨by rw [er]; simp, by rw [er]; rfl, by rw [er]; exact bx.rf h⟩ (Nat.le_of_ble_eq_true rfl) (Nat.le_of_ble_eq_true rfl)
  · obtain ⟨hw, hE1, hrx⟩ := ht
    subst w1
    have er : op_about σ a what = (1, 0, σ) := by unfold op_about; rw [hrx]
    exact ct_out hI hout hk hq hv hcl ⟨by rw [er]; simp, by rw [er]; exact hE1, by rw [er]; exact bx.rf h⟩ (Nat.le_of_ble_eq_true rfl) (Nat.le_of_ble_eq_true rfl)
set_option maxRecDepth 100000 in
set_option maxHeartbeats 1000000 in
theorem kB_write (hl0 : l.stackTraces = false) (h : iv_B K w f mi σ bc out) (a : Int32) : ct_X l n0 D K yB_write (Cond.code yB_write cB_write 2 (some .int)) 7 200 (wr_c σ bc a) (wr_s σ bc a) [.ref (f 0), .int a] w (fun v w' => rk a ≠ none ∧ v = some (.int (nI (wr_o σ out a).length)) ∧ bx K w f w' σ (wr_b σ bc a) (wr_o σ out a)) (fun E w' => rk a = none ∧ E = nx_N ∧ bx K w f w' σ bc out) := by
  have h0 := h.2.1
  have hcs : 1 ≤ wr_c σ bc a ∧ 6 ≤ wr_s σ bc a := by
    unfold wr_c wr_s
    cases rk a <;> simp
  refine ct_goX (own := nm_B) (by decide) rfl (Nat.le_of_ble_eq_true rfl) ?_
  intro p e s m below meth c ls hE hI hr hk hout hl
  have hx := hE.1.1.1
  have hb := hE.1.1.2.1
  have hl : lv_has ls 2 [(0, .ref (f 0)), (1, .int a)] := hl
  refine lv_aload_n hx hb dB_write_0 rfl (lv_at hl 0 rfl) ?_
  refine mp_get hE.1 hI h0 rfl gx_B 2 (by decide) (List.mem_cons_of_mem _ gf_B28) rfl dB_write_1 ?_
  refine lv_aload_n hx hb dB_write_4 rfl (lv_at hl 0 rfl) ?_
  refine lv_iload_n hx hb dB_write_5 rfl (lv_at hl 1 rfl) ?_
  refine ct_VX (n := 1) hE hI (kB_register hl0 h a) h0 rfl gm_B32 gi_B_register gs_B_B_register gz_B gc_B_register (by decide +kernel) ⟨Nat.le_of_ble_eq_true rfl, Nat.le_of_ble_eq_true rfl⟩ rfl hl.1 rfl (Nat.le_of_ble_eq_true rfl) dB_write_6 ⟨by show 0 + 1 ≤ wr_c σ bc a; omega, by show 0 + 6 ≤ wr_s σ bc a; omega⟩ (fun v w1 H locs hq hI => ?_) (fun E q ce w1 H locs ht hI hq hv hcl => ?_)
  · obtain ⟨hw, x, hrx, rfl⟩ := hq
    subst w1
    obtain ⟨hx16, -⟩ := rk_some hrx
    show W _ _ _ _ _ _ _ _ _ _ _ _ _ _ _ (F0 _ _ _ [.ref _, .ref _])
    obtain ⟨cx, hRx⟩ := h.reg hx16
    have okx := h.ok hx16
    have hf := h.1
    obtain ⟨-, -, -, -, -, hY, ⟨u4, W4⟩, hb64, hb6⟩ := id h
    obtain ⟨gy, hY0, -⟩ := id hY
    have htop := tx_top okx hb6
    have ec : wr_c σ bc a = 1 + tx_c bc 0 (tx_ad (tm_db (σ x) []) ([], 0)) := by unfold wr_c; rw [hrx]
    have es : wr_s σ bc a = 6 + tx_s bc 0 (tx_ad (tm_db (σ x) []) ([], 0)) := by unfold wr_s; rw [hrx]
    have eb : wr_b σ bc a = tx_b bc 0 (tx_ad (tm_db (σ x) []) ([], 0)) := by unfold wr_b; rw [hrx]
    have eo : wr_o σ out a = tm_tx (σ x) [] := by unfold wr_o; rw [hrx]
    have hn : ∀ j, j < 49 → j ≠ 3 → j ≠ 4 → j ≠ 11 → j ≠ 12 → f j ∉ [f 3, f 4, f 11, f 12] := fun j hj a1 a2 a3 a4 => hf.nin hj [3, 4, 11, 12] (by intro b hb; simp at hb; omega)
    have hn2 : ∀ j, j < 49 → j ≠ 3 → j ≠ 4 → f j ∉ [f 3, f 4] := fun j hj a1 a2 => hf.nin hj [3, 4] (by intro b hb; simp at hb; omega)
    refine ct_V (n := 1) hE hI (kX_show hY W4 hRx (hn _ (by omega) (by omega) (by omega) (by omega) (by omega)) (hn _ (by omega) (by omega) (by omega) (by omega) (by omega)) (hn2 11 (by omega) (by omega) (by omega)) (hn2 12 (by omega) (by omega) (by omega)) htop.1) hY0 rfl gm_B118 gi_X_show gs_X_X_show gz_X gc_X_show (by decide +kernel) ⟨Nat.le_of_ble_eq_true rfl, Nat.le_of_ble_eq_true rfl⟩ rfl hl.1 rfl (Nat.le_of_ble_eq_true rfl) dB_write_9 ⟨by show 0 + 1 + _ ≤ wr_c σ bc a; rw [ec]; omega, by show 0 + 6 + _ ≤ wr_s σ bc a; rw [es]; omega⟩ (fun v w1 H locs hq hI => ?_)
    obtain ⟨rfl, ba, u, hba, hkd, hY1, hW1⟩ := hq
    show W _ _ _ _ _ _ _ _ _ _ _ _ _ _ _ (F0 _ _ _ [.int _])
    rw [tm_sh_tx okx.2.2.2 okx.1] at hY1 ⊢
    refine vx_ret (ct_iret hE hI hr hk ⟨by rw [hrx]; simp, by rw [eo], ?_⟩ (by rw [ec]; omega) (by rw [es]; omega) dB_write_12)
    rw [eb, eo]
    exact bx.wr h hba hkd hY1 hW1 (by omega) (by omega)
  · obtain ⟨hw, hE1, hrx⟩ := ht
    subst w1
    exact ct_out hI hout hk hq hv hcl ⟨hrx, hE1, bx.rf h⟩ (by omega) (by omega)
set_option maxRecDepth 100000 in
theorem kB_out (hl0 : l.stackTraces = false) (h : iv_B K w f mi σ bc out) (i : Int32) : ct_X l n0 D K yB_out (Cond.code yB_out cB_out 2 (some .int)) 7 120 1 6 [.ref (f 0), .int i] w (fun v w' => (∃ k x, i = nI k ∧ k < 2147483648 ∧ out[k]? = some x ∧ v = some (.int (ci_i x))) ∧ bx K w f w' σ bc out) (fun E w' => (i.toInt < 0 ∨ (out.length : Int) ≤ i.toInt) ∧ E = "java/lang/IndexOutOfBoundsException" ∧ bx K w f w' σ bc out) := by
  have h0 := h.2.1
  obtain ⟨-, -, -, -, -, ⟨g, hX, hA, hle, hh, hfit⟩, -, hb64, hb6⟩ := id h
  have hi := ci_rng i
  have e0 : (0 : Int32).toInt = 0 := rfl
  have eL : (nI out.length).toInt = (out.length : Int) := by rw [← ci_nat]; exact ci_to (by omega) (by omega)
  refine ct_goX (own := nm_B) (by decide) rfl (Nat.le_of_ble_eq_true rfl) ?_
  intro p e s m below meth c ls hE hI hr hk hout hl
  have hx := hE.1.1.1
  have hb := hE.1.1.2.1
  have hl : lv_has ls 2 [(0, .ref (f 0)), (1, .int i)] := hl
  have bad : (i.toInt < 0 ∨ (out.length : Int) ≤ i.toInt) → ∀ ls, lv_has ls 2 [(0, .ref (f 0)), (1, .int i)] → W p l e { frames := 7, cells := 1, slots := 6, locals := 120 } s m ([Value.ref (f 0), .int i] : List Value).toArray below meth c s.heap [] 0 0 (vx_MQ below (ct_Q D w s.heap.size (fun v w' => (∃ k x, i = nI k ∧ k < 2147483648 ∧ out[k]? = some x ∧ v = some (.int (ci_i x))) ∧ bx K w f w' σ bc out)) (ct_C D w s.heap.size (fun E w' => (i.toInt < 0 ∨ (out.length : Int) ≤ i.toInt) ∧ E = "java/lang/IndexOutOfBoundsException" ∧ bx K w f w' σ bc out)) ([Value.ref (f 0), .int i] : List Value).toArray s 1 6 (mp_A w s.heap.size)) (F0 m 15 ls []) := by
    intro hb0 ls hl
    exact ct_throw hE hl0 hI (cls := "java/lang/IndexOutOfBoundsException") (text := "no such byte of OUT") (names := ["java/lang/RuntimeException", "java/lang/Exception"]) (ic := 128) (by decide +kernel) (by decide +kernel) gk_B124 gz_Jx (by decide +kernel) oa_B124_128 og_B124_128 hl.1 dB_out_15 dB_out_18 dB_out_19 dB_out_21 dB_out_24 hout (Nat.le_of_ble_eq_true rfl) (Nat.le_of_ble_eq_true rfl) (Nat.le_of_ble_eq_true rfl) (Nat.le_of_ble_eq_true rfl) hk ⟨hb0, rfl, bx.rf h⟩ (Nat.le_of_ble_eq_true rfl) (Nat.le_of_ble_eq_true rfl)
  refine lv_iload_n hx hb dB_out_0 rfl (lv_at hl 1 rfl) ?_
  refine lv_if_lt (tgt := 15) hx hb dB_out_1 (by decide) (fun hq => ?_) (fun hq => ?_)
  · rw [Int32.lt_iff_toInt_lt] at hq
    exact bad (Or.inl (by omega)) ls hl
  · rw [Int32.lt_iff_toInt_lt] at hq
    refine lv_iload_n hx hb dB_out_4 rfl (lv_at hl 1 rfl) ?_
    refine lv_aload_n hx hb dB_out_5 rfl (lv_at hl 0 rfl) ?_
    refine mp_get hE.1 hI h0 rfl gx_B 2 (by decide) (List.mem_cons_of_mem _ gf_B28) rfl dB_out_6 ?_
    refine mp_getN hE.1 hI hX rfl gx_X 1 (by decide) (ct_nw hE (q := ("BindingBench", 121, "BindingBench$Text", "length", "I")) (by decide +kernel)) rfl dB_out_9 ?_
    refine lv_icmp_lt (tgt := 25) hx hb dB_out_12 (by decide) (fun hq2 => ?_) (fun hq2 => ?_)
    · rw [Int32.lt_iff_toInt_lt] at hq2
      obtain ⟨k, hk0⟩ : ∃ k : Nat, i.toInt = (k : Int) := ⟨i.toInt.toNat, by omega⟩
      have hik : i = nI k := by rw [← ci_nat, ← hk0]; exact ci_of i
      have hkl : k < out.length := by omega
      subst hik
      refine lv_aload_n hx hb dB_out_25 rfl (lv_at hl 0 rfl) ?_
      refine mp_get hE.1 hI h0 rfl gx_B 2 (by decide) (List.mem_cons_of_mem _ gf_B28) rfl dB_out_26 ?_
      refine mp_getN hE.1 hI hX rfl gx_X 0 (by decide) (ct_nw hE (q := ("BindingBench", 129, "BindingBench$Text", "bytes", "[B")) (by decide +kernel)) rfl dB_out_29 ?_
      refine lv_iload_n hx hb dB_out_32 rfl (lv_at hl 1 rfl) ?_
      refine mp_bld hE.1 hI hA 1 rfl (vp_in_nI (by omega) (by omega)) dB_out_33 ?_
      rw [nI_clamp (by omega), hh k _ (List.getElem?_eq_getElem hkl)]
      exact vx_ret (ct_iret hE hI hr hk ⟨⟨k, _, rfl, by omega, List.getElem?_eq_getElem hkl, rfl⟩, bx.rf h⟩ (by decide) (by decide) dB_out_34)
    · rw [Int32.lt_iff_toInt_lt] at hq2
      exact bad (Or.inr (by omega)) ls hl
end KB5
end
section
/-! a new bench is well -/
def pm (j : Nat) : Nat := if j = 0 then 0 else if j = 1 then 1 else if j = 2 then 34 else if j = 3 then 45 else if j = 4 then 46 else if j < 11 then j + 34 else if j < 13 then j + 36 else if j < 45 then j - 11 else j - 10
theorem pm_i : ∀ i, i < 49 → ∀ j, j < 49 → pm i = pm j → i = j := by decide +kernel
theorem pm_lt : ∀ i, i < 49 → pm i < 49 := by decide +kernel
def op_new : Nat → Std.Format := fun _ => lfm 0
theorem mk_B.iv {K : Nat → ClassId} {w w' : mp_W} {x : Nat} (hx : w x ≠ none) (h : mk_B K w w' x) : ∃ f, iv_B K w' f 16 op_new 64 [] ∧ f 0 = x ∧ (∀ j, j < 49 → j ≠ 0 → w (f j) = none) ∧ ∀ q v, w q = some v → q ≠ x → w' q = some v := by
  obtain ⟨ra, L, ws, t1, a1, t2, a2, k1, b1, k2, b2, k3, b3, tx, by0, k4, b4, g, hz, h0, h1, ⟨hL, hr⟩, s0, s1, s2, s3, s4, s5, s6, s7, q0, q1, q2⟩ := h
  obtain ⟨R, hR⟩ : ∃ R, [ws, t1, a1, t2, a2, k1, b1, k2, b2, k3, b3, tx, by0, k4, b4] = R := ⟨_, rfl⟩
  have hC : ([ra] ++ L) ++ ([ws] ++ [t1, a1, t2, a2, k1, b1, k2, b2, k3, b3]) ++ ([tx] ++ [by0, k4, b4]) = ra :: (L ++ R) := by rw [← hR]; simp
  rw [hC] at hz
  have hlen : (x :: ra :: (L ++ R)).length = 49 := by rw [← hR]; simp; omega
  have hnx : x ∉ ra :: (L ++ R) := fun hm => hx (hz.2.1 x hm).1
  have hnd : (x :: ra :: (L ++ R)).Nodup := List.nodup_cons.mpr ⟨hnx, hz.1⟩
  obtain ⟨F, hF⟩ : ∃ F : Nat → Nat, F = fun i => ((x :: ra :: (L ++ R))[i]?).getD 0 := ⟨_, rfl⟩
  have hFat : ∀ i v, (x :: ra :: (L ++ R))[i]? = some v → F i = v := fun i v h => by rw [hF]; simp only [h]; rfl
  have hR2 : ∀ k v, R[k]? = some v → F (34 + k) = v := fun k v h => hFat _ _ (by
    rw [show 34 + k = (32 + k) + 1 + 1 by omega, List.getElem?_cons_succ, List.getElem?_cons_succ, List.getElem?_append_right (by omega), hL, show 32 + k - 2 * 16 = k by omega]
    exact h)
  have hL2 : ∀ k v, L[k]? = some v → F (2 + k) = v := fun k v h => hFat _ _ (by
    have hlt := (List.getElem?_eq_some_iff.mp h).1
    rw [show 2 + k = k + 1 + 1 by omega, List.getElem?_cons_succ, List.getElem?_cons_succ, List.getElem?_append_left hlt]
    exact h)
  have f0 : F (pm 0) = x := hFat 0 x rfl
  have f1 : F (pm 1) = ra := hFat 1 ra rfl
  have f2 : F (pm 2) = ws := hR2 0 ws (by rw [← hR]; rfl)
  have f3 : F (pm 3) = tx := hR2 11 tx (by rw [← hR]; rfl)
  have f4 : F (pm 4) = by0 := hR2 12 by0 (by rw [← hR]; rfl)
  have f5 : F (pm 5) = k1 := hR2 5 k1 (by rw [← hR]; rfl)
  have f6 : F (pm 6) = b1 := hR2 6 b1 (by rw [← hR]; rfl)
  have f7 : F (pm 7) = k2 := hR2 7 k2 (by rw [← hR]; rfl)
  have f8 : F (pm 8) = b2 := hR2 8 b2 (by rw [← hR]; rfl)
  have f9 : F (pm 9) = k3 := hR2 9 k3 (by rw [← hR]; rfl)
  have f10 : F (pm 10) = b3 := hR2 10 b3 (by rw [← hR]; rfl)
  have f11 : F (pm 11) = k4 := hR2 13 k4 (by rw [← hR]; rfl)
  have f12 : F (pm 12) = b4 := hR2 14 b4 (by rw [← hR]; rfl)
  have f45 : F (pm 45) = t1 := hR2 1 t1 (by rw [← hR]; rfl)
  have f46 : F (pm 46) = a1 := hR2 2 a1 (by rw [← hR]; rfl)
  have f47 : F (pm 47) = t2 := hR2 3 t2 (by rw [← hR]; rfl)
  have f48 : F (pm 48) = a2 := hR2 4 a2 (by rw [← hR]; rfl)
  have hpm : ∀ k, k < 32 → pm (13 + k) = 2 + k := by decide +kernel
  have hph : ph_i (fun j => F (pm j)) := by
    intro i j hi hj e
    refine pm_i i hi j hj ?_
    have hi2 := pm_lt i hi
    have hj2 := pm_lt j hj
    have g1 := List.getElem?_eq_getElem (l := x :: ra :: (L ++ R)) (i := pm i) (by omega)
    have g2 := List.getElem?_eq_getElem (l := x :: ra :: (L ++ R)) (i := pm j) (by omega)
    have e2 : (x :: ra :: (L ++ R))[pm i] = (x :: ra :: (L ++ R))[pm j] := by
      rw [← hFat _ _ g1, ← hFat _ _ g2]
      exact e
    have hpw := List.pairwise_iff_getElem.mp hnd
    rcases Nat.lt_trichotomy (pm i) (pm j) with hh | hh | hh
    · exact absurd e2 (hpw _ _ (by omega) (by omega) hh)
    · exact hh
    · exact absurd e2.symm (hpw _ _ (by omega) (by omega) hh)
  have hdb : tm_db (lfm 0) [] = [0] := rfl
  have hok : tm_ok (lfm 0) := ⟨Or.inl ⟨by decide, by decide⟩, trivial, by decide, by decide⟩
  refine ⟨fun j => F (pm j), ⟨hph, ?_, ⟨g, ?_, fun i hi => ?_⟩, ⟨Or.inl rfl, ⟨[0], ?_, ?_, ⟨([], 0), ?_⟩, ⟨([], 0), ?_⟩, ([], 0), ?_⟩, ?_⟩, fun i hi => ⟨⟨8, ?_⟩, hok⟩, ?_, ⟨([], 0), ?_⟩, by decide, by decide⟩, f0, fun j hj hj0 => ?_, fun q v hq hn => ?_⟩
  · show w' (F (pm 0)) = some (.inr (4, [.ref (F (pm 1)), .ref (F (pm 2)), .ref (F (pm 3))]))
    rw [f0, f1, f2, f3]; exact h0
  · show w' (F (pm 1)) = _
    rw [f1]; exact h1
  · obtain ⟨t, a, e1, e2, e3, -⟩ := hr i hi
    rw [e3]
    show some t = some (F (pm (13 + 2 * i)))
    rw [hpm _ (by omega), hL2 _ _ e1]
  · show w' (F (pm 2)) = some (.inr (3, [.ref (F (pm 45)), .ref (F (pm 47)), .ref (F (pm 5)), .ref (F (pm 7)), .ref (F (pm 9))]))
    rw [f2, f45, f47, f5, f7, f9]; exact s0
  · show pt_T K w' (F (pm 45)) (F (pm 46)) 2000 [0]
    rw [f45, f46]
    exact ⟨fun _ => 0, s1, s2, fun _ i y hy => by cases i with | zero => simp at hy; subst hy; rfl | succ i => simp at hy⟩
  · show pt_W K w' (F (pm 5)) (F (pm 6)) 1 1 _
    rw [f5, f6]; exact s5
  · show pt_W K w' (F (pm 7)) (F (pm 8)) 0 1 _
    rw [f7, f8]; exact s6
  · show pt_W K w' (F (pm 9)) (F (pm 10)) 0 1 _
    rw [f9, f10]; exact s7
  · show pt_V K w' (F (pm 47)) (F (pm 48)) 2000
    rw [f47, f48]
    exact ⟨1, fun _ => 0, s3, s4, Nat.le_refl _⟩
  · obtain ⟨t, a, e1, e2, e3, e4, e5⟩ := hr i hi
    show pt_R K w' (F (pm (13 + 2 * i))) (F (pm (14 + 2 * i))) 8 [0]
    rw [hpm _ (by omega), show 14 + 2 * i = 13 + (2 * i + 1) by omega, hpm _ (by omega), hL2 _ _ e1, hL2 _ _ e2]
    exact ⟨⟨fun _ => 0, e4, e5, fun _ i y hy => by cases i with | zero => simp at hy; subst hy; rfl | succ i => simp at hy⟩, by decide, by decide, fun y hy => by simp at hy; subst hy; decide⟩
  · show pt_Y K w' (F (pm 3)) (F (pm 4)) (F (pm 11)) 64 []
    rw [f3, f4, f11]
    exact ⟨fun _ => 0, q0, q1, Nat.zero_le _, fun i y hy => by simp at hy, fun _ => rfl⟩
  · show pt_W K w' (F (pm 11)) (F (pm 12)) 1 0 _
    rw [f11, f12]; exact q2
  · show w (F (pm j)) = none
    have hj2 := pm_lt j hj
    have hp0 : pm j ≠ 0 := fun e => hj0 (pm_i j hj 0 (by decide) e)
    have g1 := List.getElem?_eq_getElem (l := x :: ra :: (L ++ R)) (i := pm j) (by omega)
    rw [hFat _ _ g1]
    have hm : (x :: ra :: (L ++ R))[pm j] ∈ ra :: (L ++ R) := by
      obtain ⟨k, hk⟩ : ∃ k, pm j = k + 1 := ⟨pm j - 1, by omega⟩
      simp only [hk, List.getElem_cons_succ]
      exact List.getElem_mem _
    exact (hz.2.1 _ hm).1
  · exact hz.kp q v hq (by simp; exact hn)
end
