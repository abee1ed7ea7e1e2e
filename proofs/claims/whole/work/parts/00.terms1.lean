/-! terms as trees: an (a b) is .append a b; FUNCTION of the name j is .tag j a; all else is a leaf, whose token is tm_val (FREE n: n; the VARIABLE of the name j: -1 - j) -/
def tm_leaf : Std.Format → Bool
  | .append _ _ => false
  | .tag _ _ => false
  | _ => true
def tm_val : Std.Format → Int
  | .nest n _ => n
  | _ => 0
theorem tm_ind {P : Std.Format → Prop} (hl : ∀ t, tm_leaf t = true → P t) (hf : ∀ j a, P a → P (.tag j a)) (ha : ∀ a b, P a → P b → P (.append a b)) (t : Std.Format) : P t := by
  induction t with
  | append a b iha ihb => exact ha a b iha ihb
  | tag j a ih => exact hf j a ih
  | nil => exact hl _ rfl
  | line => exact hl _ rfl
  | align b => exact hl _ rfl
  | text s => exact hl _ rfl
  | nest n f _ => exact hl _ rfl
  | group f b _ => exact hl _ rfl
def tm_sz : Std.Format → Nat
  | .append a b => 1 + tm_sz a + tm_sz b
  | .tag _ a => 1 + tm_sz a
  | _ => 1
def tm_dp : Std.Format → Nat
  | .append a b => 1 + max (tm_dp a) (tm_dp b)
  | .tag _ a => 1 + tm_dp a
  | _ => 1
def tm_nf : Std.Format → Nat
  | .append a b => tm_nf a + tm_nf b
  | .tag _ a => 1 + tm_nf a
  | _ => 0
def tm_fn : Std.Format → List Nat
  | .append a b => tm_fn a ++ tm_fn b
  | .tag j a => j :: tm_fn a
  | _ => []
/-- a term as a row, in the order in which it is written; E: the names of the FUNCTIONS around, the innermost first -/
def tm_ln (fa : Int) (ff : Nat → Int) (fl : List Nat → Int → Int) : Std.Format → List Nat → List Int
  | .append a b, E => fa :: (tm_ln fa ff fl a E ++ tm_ln fa ff fl b E)
  | .tag j a, E => ff j :: tm_ln fa ff fl a (j :: E)
  | t, E => [fl E (tm_val t)]
theorem tm_sz_leaf {t : Std.Format} (h : tm_leaf t = true) : tm_sz t = 1 := by cases t <;> first | rfl | cases h
theorem tm_dp_leaf {t : Std.Format} (h : tm_leaf t = true) : tm_dp t = 1 := by cases t <;> first | rfl | cases h
theorem tm_nf_leaf {t : Std.Format} (h : tm_leaf t = true) : tm_nf t = 0 := by cases t <;> first | rfl | cases h
theorem tm_fn_leaf {t : Std.Format} (h : tm_leaf t = true) : tm_fn t = [] := by cases t <;> first | rfl | cases h
theorem tm_ln_leaf {fa : Int} {ff : Nat → Int} {fl : List Nat → Int → Int} {t : Std.Format} (h : tm_leaf t = true) (E : List Nat) : tm_ln fa ff fl t E = [fl E (tm_val t)] := by cases t <;> first | rfl | cases h
theorem tm_ln_app {fa : Int} {ff : Nat → Int} {fl : List Nat → Int → Int} (a b : Std.Format) (E : List Nat) : tm_ln fa ff fl (.append a b) E = fa :: (tm_ln fa ff fl a E ++ tm_ln fa ff fl b E) := rfl
theorem tm_ln_fun {fa : Int} {ff : Nat → Int} {fl : List Nat → Int → Int} (j : Nat) (a : Std.Format) (E : List Nat) : tm_ln fa ff fl (.tag j a) E = ff j :: tm_ln fa ff fl a (j :: E) := rfl
theorem tm_ln_len {fa : Int} {ff : Nat → Int} {fl : List Nat → Int → Int} (t : Std.Format) : ∀ E, (tm_ln fa ff fl t E).length = tm_sz t := by
  induction t using tm_ind with
  | hl t h => intro E; rw [tm_ln_leaf h, tm_sz_leaf h]; rfl
  | hf j a ih => intro E; rw [tm_ln_fun, List.length_cons, ih]; show _ = 1 + tm_sz a; omega
  | ha a b iha ihb => intro E; rw [tm_ln_app, List.length_cons, List.length_append, iha, ihb]; show _ = 1 + tm_sz a + tm_sz b; omega
theorem tm_sz_pos (t : Std.Format) : 1 ≤ tm_sz t := by
  induction t using tm_ind with
  | hl t h => rw [tm_sz_leaf h]; omega
  | hf j a ih => show 1 ≤ 1 + tm_sz a; omega
  | ha a b iha ihb => show 1 ≤ 1 + tm_sz a + tm_sz b; omega
theorem tm_dp_pos (t : Std.Format) : 1 ≤ tm_dp t := by
  induction t using tm_ind with
  | hl t h => rw [tm_dp_leaf h]; omega
  | hf j a ih => show 1 ≤ 1 + tm_dp a; omega
  | ha a b iha ihb => show 1 ≤ 1 + max (tm_dp a) (tm_dp b); omega
theorem tm_dp_sz (t : Std.Format) : tm_dp t ≤ tm_sz t := by
  induction t using tm_ind with
  | hl t h => rw [tm_sz_leaf h, tm_dp_leaf h]; omega
  | hf j a ih => show 1 + tm_dp a ≤ 1 + tm_sz a; omega
  | ha a b iha ihb => show 1 + max (tm_dp a) (tm_dp b) ≤ 1 + tm_sz a + tm_sz b; omega
theorem tm_nf_sz (t : Std.Format) : tm_nf t + 1 ≤ tm_sz t := by
  induction t using tm_ind with
  | hl t h => rw [tm_sz_leaf h, tm_nf_leaf h]; omega
  | hf j a ih => show 1 + tm_nf a + 1 ≤ 1 + tm_sz a; omega
  | ha a b iha ihb => show tm_nf a + tm_nf b + 1 ≤ 1 + tm_sz a + tm_sz b; omega
/-- the place of a name among those around -/
def tm_ix (v : Nat) : List Nat → Nat
  | [] => 0
  | k :: E => if k = v then 0 else tm_ix v E + 1
theorem tm_ix_in {v : Nat} {E : List Nat} (h : v ∈ E) : tm_ix v E < E.length := by
  induction E with
  | nil => cases h
  | cons k E ih =>
    by_cases hk : k = v
    · simp [tm_ix, hk]
    · have h2 : v ∈ E := by
        rcases List.mem_cons.mp h with h | h
        · exact absurd h.symm hk
        · exact h
      have := ih h2
      simp [tm_ix, hk]
      omega
theorem tm_ix_at {v : Nat} {E : List Nat} (h : v ∈ E) : E[tm_ix v E]? = some v := by
  induction E with
  | nil => cases h
  | cons k E ih =>
    by_cases hk : k = v
    · simp [tm_ix, hk]
    · have h2 : v ∈ E := by
        rcases List.mem_cons.mp h with h | h
        · exact absurd h.symm hk
        · exact h
      simp [tm_ix, hk, ih h2]
theorem tm_ix_left {v : Nat} {F : List Nat} (h : v ∈ F) (E : List Nat) : tm_ix v (F ++ E) = tm_ix v F := by
  induction F with
  | nil => cases h
  | cons k F ih =>
    by_cases hk : k = v
    · simp [tm_ix, hk]
    · have h2 : v ∈ F := by
        rcases List.mem_cons.mp h with h | h
        · exact absurd h.symm hk
        · exact h
      simp [tm_ix, hk, ih h2]
theorem tm_ix_right {v : Nat} {F : List Nat} (h : v ∉ F) (E : List Nat) : tm_ix v (F ++ E) = F.length + tm_ix v E := by
  induction F with
  | nil => simp
  | cons k F ih =>
    have hk : k ≠ v := fun q => h (by simp [q])
    have h2 : v ∉ F := fun q => h (by simp [q])
    simp [tm_ix, hk, ih h2]
    omega
/-- a leaf's cell in the class -/
def tm_lc (E : List Nat) (n : Int) : Int := if 0 ≤ n then n else 100 + (tm_ix (-1 - n).toNat E : Int)
theorem tm_lc_nn (E : List Nat) (n : Int) : 0 ≤ tm_lc E n := by
  unfold tm_lc
  split <;> omega
theorem tm_lc_free {E : List Nat} {n : Int} (h : 0 ≤ n) : tm_lc E n = n := by simp [tm_lc, h]
theorem tm_lc_var {E : List Nat} {n : Int} (h : n < 0) : tm_lc E n = 100 + (tm_ix (-1 - n).toNat E : Int) := by
  have : ¬ 0 ≤ n := by omega
  simp [tm_lc, this]
/-- the class's row, the reference's, and the kinds ((a b) 2, FUNCTION 1, a leaf 0) -/
def tm_db (t : Std.Format) (E : List Nat) : List Int := tm_ln (-1) (fun _ => -2) tm_lc t E
def tm_row (t : Std.Format) : List Int := tm_ln 1000 (fun j => 2000 + (j : Int)) (fun _ n => n) t []
def tm_ks (t : Std.Format) : List Int := tm_ln 2 (fun _ => 1) (fun _ _ => 0) t []
theorem tm_db_leaf {t : Std.Format} (h : tm_leaf t = true) (E : List Nat) : tm_db t E = [tm_lc E (tm_val t)] := tm_ln_leaf h E
theorem tm_db_app (a b : Std.Format) (E : List Nat) : tm_db (.append a b) E = -1 :: (tm_db a E ++ tm_db b E) := rfl
theorem tm_db_fun (j : Nat) (a : Std.Format) (E : List Nat) : tm_db (.tag j a) E = -2 :: tm_db a (j :: E) := rfl
theorem tm_db_len (t : Std.Format) (E : List Nat) : (tm_db t E).length = tm_sz t := tm_ln_len t E
theorem tm_ln_env {fa : Int} {ff : Nat → Int} {g : Int → Int} (t : Std.Format) : ∀ E, tm_ln fa ff (fun _ n => g n) t E = tm_ln fa ff (fun _ n => g n) t [] := by
  induction t using tm_ind with
  | hl t h => intro E; rw [tm_ln_leaf h, tm_ln_leaf h]
  | hf j a ih => intro E; rw [tm_ln_fun, tm_ln_fun, ih (j :: E), ih [j]]
  | ha a b iha ihb => intro E; rw [tm_ln_app, tm_ln_app, iha E, ihb E]
theorem tm_row_leaf {t : Std.Format} (h : tm_leaf t = true) : tm_row t = [tm_val t] := tm_ln_leaf h []
theorem tm_row_app (a b : Std.Format) : tm_row (.append a b) = 1000 :: (tm_row a ++ tm_row b) := rfl
theorem tm_row_fun (j : Nat) (a : Std.Format) : tm_row (.tag j a) = (2000 + (j : Int)) :: tm_row a := by
  show _ :: tm_ln _ _ _ a [j] = _
  rw [tm_ln_env (g := fun n => n) a [j]]
  rfl
theorem tm_row_len (t : Std.Format) : (tm_row t).length = tm_sz t := tm_ln_len t []
theorem tm_ks_leaf {t : Std.Format} (h : tm_leaf t = true) : tm_ks t = [0] := tm_ln_leaf h []
theorem tm_ks_app (a b : Std.Format) : tm_ks (.append a b) = 2 :: (tm_ks a ++ tm_ks b) := rfl
theorem tm_ks_fun (j : Nat) (a : Std.Format) : tm_ks (.tag j a) = 1 :: tm_ks a := by
  show _ :: tm_ln _ _ _ a [j] = _
  rw [tm_ln_env (g := fun _ => 0) a [j]]
  rfl
theorem tm_ks_len (t : Std.Format) : (tm_ks t).length = tm_sz t := tm_ln_len t []
/-- every VARIABLE has its FUNCTION around it; every FREE one is of 0 .. 99 -/
def tm_sc : Std.Format → List Nat → Prop
  | .append a b, E => tm_sc a E ∧ tm_sc b E
  | .tag j a, E => tm_sc a (j :: E)
  | t, E => (0 ≤ tm_val t ∧ tm_val t ≤ 99) ∨ (tm_val t < 0 ∧ (-1 - tm_val t).toNat ∈ E)
theorem tm_sc_leaf {t : Std.Format} (h : tm_leaf t = true) (E : List Nat) : tm_sc t E = ((0 ≤ tm_val t ∧ tm_val t ≤ 99) ∨ (tm_val t < 0 ∧ (-1 - tm_val t).toNat ∈ E)) := by cases t <;> first | rfl | cases h
theorem tm_sc_mono (t : Std.Format) : ∀ E E', (∀ v ∈ E, v ∈ E') → tm_sc t E → tm_sc t E' := by
  induction t using tm_ind with
  | hl t h =>
    intro E E' hE hs
    rw [tm_sc_leaf h] at hs ⊢
    rcases hs with hs | ⟨h1, h2⟩
    · exact Or.inl hs
    · exact Or.inr ⟨h1, hE _ h2⟩
  | hf j a ih =>
    intro E E' hE hs
    refine ih (j :: E) (j :: E') (fun v hv => ?_) hs
    rcases List.mem_cons.mp hv with h | h
    · exact h ▸ List.mem_cons_self
    · exact List.mem_cons_of_mem _ (hE v h)
  | ha a b iha ihb => intro E E' hE hs; exact ⟨iha E E' hE hs.1, ihb E E' hE hs.2⟩
/-- the FUNCTIONS are numbered in the order of the row, from k on -/
def tm_cn : Std.Format → Nat → Prop
  | .append a b, k => tm_cn a k ∧ tm_cn b (k + tm_nf a)
  | .tag j a, k => j = k ∧ tm_cn a (k + 1)
  | _, _ => True
theorem tm_cn_leaf {t : Std.Format} (h : tm_leaf t = true) (k : Nat) : tm_cn t k = True := by cases t <;> first | rfl | cases h
theorem tm_cn_fn (t : Std.Format) : ∀ k, tm_cn t k → ∀ n ∈ tm_fn t, k ≤ n ∧ n < k + tm_nf t := by
  induction t using tm_ind with
  | hl t h => intro k _ n hn; rw [tm_fn_leaf h] at hn; cases hn
  | hf j a ih =>
    intro k hc n hn
    obtain ⟨rfl, hc⟩ := hc
    show j ≤ n ∧ n < j + (1 + tm_nf a)
    rcases List.mem_cons.mp hn with h | h
    · omega
    · have := ih _ hc n h
      omega
  | ha a b iha ihb =>
    intro k hc n hn
    show k ≤ n ∧ n < k + (tm_nf a + tm_nf b)
    rcases List.mem_append.mp hn with h | h
    · have := iha _ hc.1 n h
      omega
    · have := ihb _ hc.2 n h
      omega
theorem tm_db_cl (t : Std.Format) : ∀ G E, tm_sc t G → tm_db t (G ++ E) = tm_db t G := by
  induction t using tm_ind with
  | hl t h =>
    intro G E hs
    rw [tm_db_leaf h, tm_db_leaf h]
    rw [tm_sc_leaf h] at hs
    rcases hs with ⟨h1, h2⟩ | ⟨h1, h2⟩
    · rw [tm_lc_free h1, tm_lc_free h1]
    · rw [tm_lc_var h1, tm_lc_var h1, tm_ix_left h2]
  | hf j a ih =>
    intro G E hs
    rw [tm_db_fun, tm_db_fun]
    exact congrArg _ (ih (j :: G) E hs)
  | ha a b iha ihb => intro G E hs; rw [tm_db_app, tm_db_app, iha G E hs.1, ihb G E hs.2]
/-- the walk along a class's row: what waits (150 at most), and the count; p for an (a b), q for a FUNCTION -/
def tm_pop : List Nat → List Nat × Nat
  | [] => ([], 0)
  | y :: h => (h, y)
def tm_wk (p q : Nat) (s : List Nat × Nat) (x : Int) : List Nat × Nat :=
  if x = -1 then (if s.1.length < 150 then (s.2 + p) :: s.1 else s.1, s.2 + p) else if x = -2 then (s.1, s.2 + q) else tm_pop s.1
theorem tm_wk_a (p q : Nat) {h : List Nat} (hh : h.length < 150) (c : Nat) : tm_wk p q (h, c) (-1) = ((c + p) :: h, c + p) := by simp [tm_wk, hh]
theorem tm_wk_f (p q : Nat) (h : List Nat) (c : Nat) : tm_wk p q (h, c) (-2) = (h, c + q) := rfl
theorem tm_wk_l (p q : Nat) (s : List Nat × Nat) {x : Int} (hx : 0 ≤ x) : tm_wk p q s x = tm_pop s.1 := by
  have h1 : ¬ x = -1 := by omega
  have h2 : ¬ x = -2 := by omega
  simp [tm_wk, h1, h2]
def tm_ws (p q : Nat) (s : List Nat × Nat) (L : List Int) : List Nat × Nat := L.foldl (tm_wk p q) s
theorem tm_ws_app (p q : Nat) (s : List Nat × Nat) (L M : List Int) : tm_ws p q s (L ++ M) = tm_ws p q (tm_ws p q s L) M := List.foldl_append ..
theorem tm_ws_cons (p q : Nat) (s : List Nat × Nat) (x : Int) (M : List Int) : tm_ws p q s (x :: M) = tm_ws p q (tm_wk p q s x) M := rfl
theorem tm_dp_f (j : Nat) (a : Std.Format) : tm_dp (.tag j a) = 1 + tm_dp a := rfl
theorem tm_dp_a (a b : Std.Format) : tm_dp (.append a b) = 1 + max (tm_dp a) (tm_dp b) := rfl
theorem tm_ws_db (p q : Nat) (t : Std.Format) : ∀ E h c, h.length + tm_dp t ≤ 151 → tm_ws p q (h, c) (tm_db t E) = tm_pop h := by
  induction t using tm_ind with
  | hl t h => intro E s c _; rw [tm_db_leaf h, tm_ws_cons, tm_wk_l _ _ _ (tm_lc_nn _ _)]; rfl
  | hf j a ih =>
    intro E s c hh
    rw [tm_dp_f] at hh
    rw [tm_db_fun, tm_ws_cons, tm_wk_f, ih _ _ _ (by omega)]
  | ha a b iha ihb =>
    intro E s c hh
    rw [tm_dp_a] at hh
    have h1 := tm_dp_pos a
    rw [tm_db_app, tm_ws_cons, tm_wk_a _ _ (by omega), tm_ws_app, iha _ _ _ (by simp; omega)]
    show tm_ws p q (s, c + p) _ = _
    rw [ihb _ _ _ (by omega)]
/-- what a walk writes -/
def tm_fl (p q : Nat) (g : Int → Nat → List Int) : List Int → List Nat × Nat → List Int
  | [], _ => []
  | x :: L, s => g x s.2 ++ tm_fl p q g L (tm_wk p q s x)
theorem tm_fl_app (p q : Nat) (g : Int → Nat → List Int) (L M : List Int) : ∀ s, tm_fl p q g (L ++ M) s = tm_fl p q g L s ++ tm_fl p q g M (tm_ws p q s L) := by
  induction L with
  | nil => intro s; rfl
  | cons x L ih => intro s; show g x s.2 ++ tm_fl p q g (L ++ M) _ = (g x s.2 ++ tm_fl p q g L _) ++ _; rw [ih, List.append_assoc]; rfl
theorem tm_fl_cons (p q : Nat) (g : Int → Nat → List Int) (x : Int) (L : List Int) (s : List Nat × Nat) : tm_fl p q g (x :: L) s = g x s.2 ++ tm_fl p q g L (tm_wk p q s x) := rfl
/-- raised by m -/
def tm_gr (m : Nat) (x : Int) (c : Nat) : List Int := [if 99 + (c : Int) < x then x + m else x]
theorem tm_raise (m : Nat) (b : Std.Format) (F E : List Nat) (hF : F.length = m) (hd : ∀ v ∈ E, v ∉ F) : ∀ G h, h.length + tm_dp b ≤ 151 → tm_sc b (G ++ E) → tm_fl 0 1 (tm_gr m) (tm_db b (G ++ E)) (h, G.length) = tm_db b (G ++ (F ++ E)) := by
  induction b using tm_ind with
  | hl t hl =>
    intro G h _ hs
    rw [tm_db_leaf hl, tm_db_leaf hl, tm_fl_cons]
    rw [tm_sc_leaf hl] at hs
    show tm_gr m _ _ ++ [] = _
    rw [List.append_nil]
    unfold tm_gr
    rcases hs with ⟨h1, h2⟩ | ⟨h1, h2⟩
    · rw [tm_lc_free h1, tm_lc_free h1, if_neg (by show ¬ 99 + ((G.length : Nat) : Int) < _; omega)]
    · rw [tm_lc_var h1, tm_lc_var h1]
      by_cases hG : (-1 - tm_val t).toNat ∈ G
      · have h3 := tm_ix_in hG
        rw [tm_ix_left hG, tm_ix_left hG, if_neg (by show ¬ 99 + ((G.length : Nat) : Int) < _; omega)]
      · have hE : (-1 - tm_val t).toNat ∈ E := by
          rcases List.mem_append.mp h2 with q | q
          · exact absurd q hG
          · exact q
        rw [tm_ix_right hG, tm_ix_right hG, tm_ix_right (hd _ hE), if_pos (by show 99 + ((G.length : Nat) : Int) < _; omega), hF]
        congr 1
        omega
  | hf j a ih =>
    intro G h hh hs
    rw [tm_dp_f] at hh
    rw [tm_db_fun, tm_db_fun, tm_fl_cons]
    have h1 := ih (j :: G) h (by omega) hs
    show [if _ then _ else _] ++ tm_fl 0 1 _ _ (h, G.length + 1) = _
    rw [if_neg (by show ¬ 99 + ((G.length : Nat) : Int) < _; omega)]
    exact congrArg _ h1
  | ha x y iha ihb =>
    intro G h hh hs
    rw [tm_dp_a] at hh
    have hx := tm_dp_pos x
    rw [tm_db_app, tm_db_app, tm_fl_cons, tm_wk_a _ _ (by omega), tm_fl_app, tm_ws_db _ _ _ _ _ _ (by simp; omega)]
    show [if _ then _ else _] ++ (tm_fl 0 1 _ _ (G.length :: h, G.length) ++ tm_fl 0 1 _ _ (h, G.length)) = _
    rw [if_neg (by show ¬ 99 + ((G.length : Nat) : Int) < _; omega), iha G _ (by simp; omega) hs.1, ihb G _ (by omega) hs.2]
    rfl
/-- PUT: b for the leaves of the token n -/
def tm_sub (n : Int) (b : Std.Format) : Std.Format → Std.Format
  | .append x y => .append (tm_sub n b x) (tm_sub n b y)
  | .tag j x => .tag j (tm_sub n b x)
  | t => if tm_val t = n then b else t
theorem tm_sub_leaf (n : Int) (b : Std.Format) {t : Std.Format} (h : tm_leaf t = true) : tm_sub n b t = if tm_val t = n then b else t := by cases t <;> first | rfl | cases h
theorem tm_row_sub {n : Int} (hn : n < 1000) (b a : Std.Format) : tm_row (tm_sub n b a) = (tm_row a).flatMap (fun x => if x = n then tm_row b else [x]) := by
  induction a using tm_ind with
  | hl t h =>
    rw [tm_sub_leaf n b h, tm_row_leaf h]
    by_cases hv : tm_val t = n
    · simp [hv]
    · simp [hv, tm_row_leaf h]
  | hf j a ih =>
    show tm_row (.tag j (tm_sub n b a)) = _
    have h1 : ¬ (2000 + (j : Int)) = n := by omega
    rw [tm_row_fun, tm_row_fun, ih, List.flatMap_cons, if_neg h1]
    rfl
  | ha x y iha ihb =>
    show tm_row (.append (tm_sub n b x) (tm_sub n b y)) = _
    have h1 : ¬ (1000 : Int) = n := by omega
    rw [tm_row_app, tm_row_app, iha, ihb, List.flatMap_cons, if_neg h1, List.flatMap_append]
    rfl
/-- the inside of a FUNCTION, filled: RB c is what goes in below c FUNCTIONS -/
def tm_gf (RB : Nat → List Int) (x : Int) (c : Nat) : List Int := if x = 100 + (c : Int) then RB c else [if 100 + (c : Int) < x then x - 1 else x]
theorem tm_fill (RB : Nat → List Int) (b : Std.Format) (j : Nat) (E : List Nat) (hR : ∀ F : List Nat, (∀ v ∈ E, v ∉ F) → RB F.length = tm_db b (F ++ E)) (a : Std.Format) : ∀ F h, h.length + tm_dp a ≤ 151 → tm_sc a (F ++ j :: E) → j ∉ F → (∀ v ∈ E, v ∉ F) → (∀ n ∈ tm_fn a, n ≠ j ∧ n ∉ E) →
    tm_fl 0 1 (tm_gf RB) (tm_db a (F ++ j :: E)) (h, F.length) = tm_db (tm_sub (-1 - (j : Int)) b a) (F ++ E) := by
  induction a using tm_ind with
  | hl t hl =>
    intro F h _ hs hj hE _
    rw [tm_db_leaf hl, tm_fl_cons, tm_sub_leaf _ _ hl]
    rw [tm_sc_leaf hl] at hs
    show tm_gf RB _ F.length ++ [] = _
    rw [List.append_nil]
    unfold tm_gf
    rcases hs with ⟨h1, h2⟩ | ⟨h1, h2⟩
    · rw [tm_lc_free h1, if_neg (by omega), if_neg (by omega), if_neg (by omega), tm_db_leaf hl, tm_lc_free h1]
    · rw [tm_lc_var h1]
      generalize hv : (-1 - tm_val t).toNat = v at h2 ⊢
      by_cases hvj : v = j
      · subst hvj
        rw [tm_ix_right hj]
        have h3 : tm_ix v (v :: E) = 0 := by simp [tm_ix]
        rw [h3, if_pos (by omega), if_pos (by omega), hR F hE]
      · rw [if_neg (show ¬ tm_val t = -1 - (j : Int) by omega), tm_db_leaf hl, tm_lc_var h1, hv]
        by_cases hF : v ∈ F
        · have h3 := tm_ix_in hF
          rw [tm_ix_left hF, tm_ix_left hF, if_neg (by omega), if_neg (by omega)]
        · have h3 : tm_ix v (j :: E) = tm_ix v E + 1 := by simp [tm_ix, Ne.symm hvj]
          rw [tm_ix_right hF, tm_ix_right hF, h3, if_neg (by omega), if_pos (by omega)]
          congr 1
          omega
  | hf i a ih =>
    intro F h hh hs hj hE hn
    rw [tm_dp_f] at hh
    rw [tm_db_fun, tm_fl_cons]
    have hi := hn i (List.mem_cons_self ..)
    have h1 := ih (i :: F) h (by omega) hs (fun q => by
      rcases List.mem_cons.mp q with q | q
      · exact hi.1 q.symm
      · exact hj q) (fun v hv q => by
      rcases List.mem_cons.mp q with q | q
      · exact hi.2 (q ▸ hv)
      · exact hE v hv q) (fun n q => hn n (List.mem_cons_of_mem _ q))
    show tm_gf RB (-2) F.length ++ tm_fl 0 1 _ _ (h, F.length + 1) = tm_db (.tag i (tm_sub _ b a)) (F ++ E)
    unfold tm_gf
    rw [if_neg (by omega), if_neg (by omega), tm_db_fun]
    exact congrArg _ h1
  | ha x y iha ihb =>
    intro F h hh hs hj hE hn
    rw [tm_dp_a] at hh
    have hx := tm_dp_pos x
    rw [tm_db_app, tm_fl_cons, tm_wk_a _ _ (by omega), tm_fl_app, tm_ws_db _ _ _ _ _ _ (by simp; omega)]
    show tm_gf RB (-1) F.length ++ (tm_fl 0 1 _ _ (F.length :: h, F.length) ++ tm_fl 0 1 _ _ (h, F.length)) = tm_db (.append (tm_sub _ b x) (tm_sub _ b y)) (F ++ E)
    rw [iha F _ (by simp; omega) hs.1 hj hE (fun n q => hn n (List.mem_append_left _ q)), ihb F _ (by omega) hs.2 hj hE (fun n q => hn n (List.mem_append_right _ q))]
    unfold tm_gf
    rw [if_neg (by omega), if_neg (by omega), tm_db_app]
    rfl
