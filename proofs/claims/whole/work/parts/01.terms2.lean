/-! terms, second part: bind, put, new names, the same, a place in a term -/
def tm_gb (n : Int) (x : Int) (c : Nat) : List Int := [if x = n then 100 + (c : Int) else x]
theorem tm_close {n : Int} (h0 : 0 ≤ n) (h9 : n ≤ 99) (z : Nat) (a : Std.Format) : ∀ F h, h.length + tm_dp a ≤ 151 → tm_sc a F → z ∉ F → z ∉ tm_fn a →
    tm_fl 0 1 (tm_gb n) (tm_db a F) (h, F.length) = tm_db (tm_sub n (.nest (-1 - (z : Int)) .nil) a) (F ++ [z]) := by
  induction a using tm_ind with
  | hl t hl =>
    intro F h _ hs hz _
    rw [tm_db_leaf hl, tm_fl_cons, tm_sub_leaf _ _ hl]
    rw [tm_sc_leaf hl] at hs
    show tm_gb n _ F.length ++ [] = _
    rw [List.append_nil]
    unfold tm_gb
    rcases hs with ⟨h1, h2⟩ | ⟨h1, h2⟩
    · rw [tm_lc_free h1]
      by_cases hv : tm_val t = n
      · rw [if_pos hv, if_pos hv]
        show _ = [tm_lc (F ++ [z]) (-1 - (z : Int))]
        rw [tm_lc_var (by omega), show (-1 - (-1 - (z : Int))).toNat = z by omega, tm_ix_right hz]
        simp [tm_ix]
      · rw [if_neg hv, if_neg hv, tm_db_leaf hl, tm_lc_free h1]
    · rw [tm_lc_var h1, if_neg (by omega), if_neg (by omega), tm_db_leaf hl, tm_lc_var h1, tm_ix_left h2]
  | hf i a ih =>
    intro F h hh hs hz hn
    rw [tm_dp_f] at hh
    rw [tm_db_fun, tm_fl_cons]
    have h1 := ih (i :: F) h (by omega) hs (fun q => by
      rcases List.mem_cons.mp q with q | q
      · exact hn (q ▸ List.mem_cons_self)
      · exact hz q) (fun q => hn (List.mem_cons_of_mem _ q))
    show tm_gb n (-2) F.length ++ tm_fl 0 1 _ _ (h, F.length + 1) = tm_db (.tag i (tm_sub _ _ a)) (F ++ [z])
    unfold tm_gb
    rw [if_neg (by omega), tm_db_fun]
    exact congrArg _ h1
  | ha x y iha ihb =>
    intro F h hh hs hz hn
    rw [tm_dp_a] at hh
    have hx := tm_dp_pos x
    rw [tm_db_app, tm_fl_cons, tm_wk_a _ _ (by omega), tm_fl_app, tm_ws_db _ _ _ _ _ _ (by simp; omega)]
    show tm_gb n (-1) F.length ++ (tm_fl 0 1 _ _ (F.length :: h, F.length) ++ tm_fl 0 1 _ _ (h, F.length)) = tm_db (.append (tm_sub _ _ x) (tm_sub _ _ y)) (F ++ [z])
    rw [iha F _ (by simp; omega) hs.1 hz (fun q => hn (List.mem_append_left _ q)), ihb F _ (by omega) hs.2 hz (fun q => hn (List.mem_append_right _ q))]
    unfold tm_gb
    rw [if_neg (by omega), tm_db_app]
    rfl
theorem tm_putdb {n : Int} (h0 : 0 ≤ n) (h9 : n ≤ 99) (b : Std.Format) (hb : tm_sc b []) (a : Std.Format) : ∀ E, tm_sc a E → tm_db (tm_sub n b a) E = (tm_db a E).flatMap (fun x => if x = n then tm_db b [] else [x]) := by
  induction a using tm_ind with
  | hl t hl =>
    intro E hs
    rw [tm_sub_leaf _ _ hl, tm_db_leaf hl]
    rw [tm_sc_leaf hl] at hs
    rcases hs with ⟨h1, h2⟩ | ⟨h1, h2⟩
    · rw [tm_lc_free h1]
      by_cases hv : tm_val t = n
      · have h3 := tm_db_cl b [] E hb
        rw [List.nil_append] at h3
        simp [hv, h3]
      · simp [hv, tm_db_leaf hl, tm_lc_free h1]
    · have h3 : ¬ tm_lc E (tm_val t) = n := by rw [tm_lc_var h1]; omega
      rw [if_neg (by omega), tm_db_leaf hl]
      simp [h3]
  | hf j a ih =>
    intro E hs
    show tm_db (.tag j (tm_sub n b a)) E = _
    have h1 : ¬ (-2 : Int) = n := by omega
    rw [tm_db_fun, tm_db_fun, ih _ hs, List.flatMap_cons, if_neg h1]
    rfl
  | ha x y iha ihb =>
    intro E hs
    show tm_db (.append (tm_sub n b x) (tm_sub n b y)) E = _
    have h1 : ¬ (-1 : Int) = n := by omega
    rw [tm_db_app, tm_db_app, iha _ hs.1, ihb _ hs.2, List.flatMap_cons, if_neg h1, List.flatMap_append]
    rfl
theorem tm_sub_sc (n : Int) (b : Std.Format) (E : List Nat) (hb : tm_sc b E) (D : List Nat) (hD : ∀ v ∈ D, v ∈ E ∨ -1 - (v : Int) = n) (a : Std.Format) : ∀ F, tm_sc a (F ++ D) → tm_sc (tm_sub n b a) (F ++ E) := by
  induction a using tm_ind with
  | hl t hl =>
    intro F hs
    rw [tm_sub_leaf _ _ hl]
    by_cases hv : tm_val t = n
    · rw [if_pos hv]
      exact tm_sc_mono b E _ (fun v q => List.mem_append_right _ q) hb
    · rw [if_neg hv, tm_sc_leaf hl]
      rw [tm_sc_leaf hl] at hs
      rcases hs with hs | ⟨h1, h2⟩
      · exact Or.inl hs
      · refine Or.inr ⟨h1, ?_⟩
        rcases List.mem_append.mp h2 with q | q
        · exact List.mem_append_left _ q
        · rcases hD _ q with q | q
          · exact List.mem_append_right _ q
          · exact absurd (by omega) hv
  | hf j a ih => intro F hs; exact ih (j :: F) hs
  | ha x y iha ihb => intro F hs; exact ⟨iha F hs.1, ihb F hs.2⟩
/-- new names, in the order of the row, from k on -/
def tm_rn : Std.Format → (Nat → Nat) → Nat → Std.Format
  | .append a b, f, k => .append (tm_rn a f k) (tm_rn b f (k + tm_nf a))
  | .tag j a, f, k => .tag k (tm_rn a (fun v => if v = j then k else f v) (k + 1))
  | t, f, _ => if tm_val t < 0 then .nest (-1 - (f (-1 - tm_val t).toNat : Int)) .nil else t
theorem tm_rn_leaf {t : Std.Format} (h : tm_leaf t = true) (f : Nat → Nat) (k : Nat) : tm_rn t f k = if tm_val t < 0 then .nest (-1 - (f (-1 - tm_val t).toNat : Int)) .nil else t := by cases t <;> first | rfl | cases h
theorem tm_rn_lleaf {t : Std.Format} (h : tm_leaf t = true) (f : Nat → Nat) (k : Nat) : tm_leaf (tm_rn t f k) = true := by
  rw [tm_rn_leaf h]
  split
  · rfl
  · exact h
theorem tm_rn_sz (t : Std.Format) : ∀ f k, tm_sz (tm_rn t f k) = tm_sz t := by
  induction t using tm_ind with
  | hl t h => intro f k; rw [tm_sz_leaf (tm_rn_lleaf h f k), tm_sz_leaf h]
  | hf j a ih => intro f k; show 1 + tm_sz _ = 1 + tm_sz a; rw [ih]
  | ha a b iha ihb => intro f k; show 1 + tm_sz _ + tm_sz _ = 1 + tm_sz a + tm_sz b; rw [iha, ihb]
theorem tm_rn_dp (t : Std.Format) : ∀ f k, tm_dp (tm_rn t f k) = tm_dp t := by
  induction t using tm_ind with
  | hl t h => intro f k; rw [tm_dp_leaf (tm_rn_lleaf h f k), tm_dp_leaf h]
  | hf j a ih => intro f k; show 1 + tm_dp _ = 1 + tm_dp a; rw [ih]
  | ha a b iha ihb => intro f k; show 1 + max (tm_dp _) (tm_dp _) = 1 + max (tm_dp a) (tm_dp b); rw [iha, ihb]
theorem tm_rn_nf (t : Std.Format) : ∀ f k, tm_nf (tm_rn t f k) = tm_nf t := by
  induction t using tm_ind with
  | hl t h => intro f k; rw [tm_nf_leaf (tm_rn_lleaf h f k), tm_nf_leaf h]
  | hf j a ih => intro f k; show 1 + tm_nf _ = 1 + tm_nf a; rw [ih]
  | ha a b iha ihb => intro f k; show tm_nf _ + tm_nf _ = tm_nf a + tm_nf b; rw [iha, ihb]
theorem tm_rn_cn (t : Std.Format) : ∀ f k, tm_cn (tm_rn t f k) k := by
  induction t using tm_ind with
  | hl t h => intro f k; rw [tm_cn_leaf (tm_rn_lleaf h f k)]; trivial
  | hf j a ih => intro f k; exact ⟨rfl, ih _ _⟩
  | ha a b iha ihb => intro f k; refine ⟨iha _ _, ?_⟩; rw [tm_rn_nf]; exact ihb _ _
theorem tm_rn_sc (t : Std.Format) : ∀ f k E E', tm_sc t E → (∀ v ∈ E, f v ∈ E') → tm_sc (tm_rn t f k) E' := by
  induction t using tm_ind with
  | hl t h =>
    intro f k E E' hs hE
    rw [tm_sc_leaf h] at hs
    rw [tm_rn_leaf h]
    rcases hs with hs | ⟨h1, h2⟩
    · rw [if_neg (by omega), tm_sc_leaf h]
      exact Or.inl hs
    · rw [if_pos h1]
      refine Or.inr ⟨?_, ?_⟩
      · show -1 - ((f _ : Nat) : Int) < 0
        omega
      · show (-1 - (-1 - ((f _ : Nat) : Int))).toNat ∈ E'
        rw [show ∀ z : Nat, (-1 - (-1 - (z : Int))).toNat = z from fun z => by omega]
        exact hE _ h2
  | hf j a ih =>
    intro f k E E' hs hE
    refine ih _ _ (j :: E) (k :: E') hs (fun v hv => ?_)
    show (if v = j then k else f v) ∈ k :: E'
    by_cases q : v = j
    · rw [if_pos q]; exact List.mem_cons_self
    · rw [if_neg q]
      rcases List.mem_cons.mp hv with h | h
      · exact absurd h q
      · exact List.mem_cons_of_mem _ (hE v h)
  | ha a b iha ihb => intro f k E E' hs hE; exact ⟨iha _ _ E E' hs.1 hE, ihb _ _ E E' hs.2 hE⟩
theorem tm_rn_db (t : Std.Format) : ∀ f k E E', tm_sc t E → (∀ v ∈ E, tm_ix (f v) E' = tm_ix v E ∧ f v < k) → tm_db (tm_rn t f k) E' = tm_db t E := by
  induction t using tm_ind with
  | hl t h =>
    intro f k E E' hs hE
    rw [tm_db_leaf (tm_rn_lleaf h f k), tm_db_leaf h]
    rw [tm_sc_leaf h] at hs
    rw [tm_rn_leaf h]
    rcases hs with hs | ⟨h1, h2⟩
    · rw [if_neg (by omega), tm_lc_free hs.1, tm_lc_free hs.1]
    · rw [if_pos h1, tm_lc_var h1]
      show [tm_lc E' (-1 - ((f _ : Nat) : Int))] = _
      rw [tm_lc_var (by omega), show ∀ z : Nat, (-1 - (-1 - (z : Int))).toNat = z from fun z => by omega, (hE _ h2).1]
  | hf j a ih =>
    intro f k E E' hs hE
    show tm_db (.tag k (tm_rn a _ (k + 1))) E' = _
    rw [tm_db_fun, tm_db_fun]
    refine congrArg _ (ih _ _ (j :: E) (k :: E') hs (fun v hv => ?_))
    show tm_ix (if v = j then k else f v) (k :: E') = tm_ix v (j :: E) ∧ (if v = j then k else f v) < k + 1
    by_cases q : v = j
    · subst q
      simp [tm_ix]
    · rw [if_neg q]
      rcases List.mem_cons.mp hv with h | h
      · exact absurd h q
      · have h1 := hE v h
        have h2 : ¬ k = f v := by omega
        have h3 : ¬ j = v := fun z => q z.symm
        simp only [tm_ix, if_neg h2, if_neg h3, h1.1]
        exact ⟨trivial, by omega⟩
  | ha a b iha ihb =>
    intro f k E E' hs hE
    show tm_db (.append (tm_rn a f k) (tm_rn b f (k + tm_nf a))) E' = _
    rw [tm_db_app, tm_db_app, iha _ _ E E' hs.1 hE, ihb _ _ E E' hs.2 (fun v hv => ⟨(hE v hv).1, by have := (hE v hv).2; omega⟩)]
/-- the term with its names put in order -/
def tm_can (t : Std.Format) : Std.Format := tm_rn t (fun v => v) 0
theorem tm_can_db {t : Std.Format} (h : tm_sc t []) : tm_db (tm_can t) [] = tm_db t [] := tm_rn_db t _ 0 [] [] h (fun _ q => by cases q)
theorem tm_can_sc {t : Std.Format} (h : tm_sc t []) : tm_sc (tm_can t) [] := tm_rn_sc t _ 0 [] [] h (fun _ q => by cases q)
/-- the names do not matter for a term without VARIABLES from outside -/
theorem tm_rn_irr (t : Std.Format) : ∀ f g k E, tm_sc t E → (∀ v ∈ E, f v = g v) → tm_rn t f k = tm_rn t g k := by
  induction t using tm_ind with
  | hl t h =>
    intro f g k E hs hE
    rw [tm_sc_leaf h] at hs
    rw [tm_rn_leaf h, tm_rn_leaf h]
    rcases hs with hs | ⟨h1, h2⟩
    · rw [if_neg (by omega), if_neg (by omega)]
    · rw [if_pos h1, if_pos h1, hE _ h2]
  | hf j a ih =>
    intro f g k E hs hE
    show Std.Format.tag k _ = Std.Format.tag k _
    rw [ih _ (fun v => if v = j then k else g v) (k + 1) (j :: E) hs (fun v hv => ?_)]
    show (if v = j then k else f v) = if v = j then k else g v
    by_cases q : v = j
    · rw [if_pos q, if_pos q]
    · rw [if_neg q, if_neg q]
      rcases List.mem_cons.mp hv with h | h
      · exact absurd h q
      · exact hE v h
  | ha a b iha ihb =>
    intro f g k E hs hE
    show Std.Format.append _ _ = Std.Format.append _ _
    rw [iha f g k E hs.1 hE, ihb f g _ E hs.2 hE]
theorem tm_cases (t : Std.Format) : tm_leaf t = true ∨ (∃ j a, t = .tag j a) ∨ ∃ a b, t = .append a b := by
  cases t <;> first | exact Or.inl rfl | exact Or.inr (Or.inl ⟨_, _, rfl⟩) | exact Or.inr (Or.inr ⟨_, _, rfl⟩)
/-- rows without names are the same just where the rows with names in order are -/
theorem tm_same1 (t : Std.Format) : ∀ u E k r r', tm_cn t k → tm_cn u k → tm_sc t E → tm_sc u E → tm_db t E ++ r = tm_db u E ++ r' → tm_row t = tm_row u ∧ tm_nf t = tm_nf u ∧ r = r' := by
  induction t using tm_ind with
  | hl t h =>
    intro u E k r r' _ _ hs hs' he
    rw [tm_sc_leaf h] at hs
    rw [tm_db_leaf h] at he
    rcases tm_cases u with hu | ⟨j, a, rfl⟩ | ⟨a, b, rfl⟩
    · rw [tm_db_leaf hu] at he
      rw [tm_sc_leaf hu] at hs'
      have he1 : tm_lc E (tm_val t) = tm_lc E (tm_val u) := (List.cons.inj he).1
      have he2 : r = r' := (List.cons.inj he).2
      refine ⟨?_, by rw [tm_nf_leaf h, tm_nf_leaf hu], he2⟩
      rw [tm_row_leaf h, tm_row_leaf hu]
      rcases hs with hs | ⟨h1, h2⟩ <;> rcases hs' with hs' | ⟨h3, h4⟩
      · rw [tm_lc_free hs.1, tm_lc_free hs'.1] at he1; rw [he1]
      · rw [tm_lc_free hs.1, tm_lc_var h3] at he1; omega
      · rw [tm_lc_var h1, tm_lc_free hs'.1] at he1; omega
      · rw [tm_lc_var h1, tm_lc_var h3] at he1
        have h5 : tm_ix (-1 - tm_val t).toNat E = tm_ix (-1 - tm_val u).toNat E := by omega
        have h6 := tm_ix_at h2
        rw [h5, tm_ix_at h4] at h6
        have h7 := Option.some.inj h6
        congr 1
        omega
    · rw [tm_db_fun] at he
      have := (List.cons.inj he).1
      have h9 := tm_lc_nn E (tm_val t)
      omega
    · rw [tm_db_app] at he
      have := (List.cons.inj he).1
      have h9 := tm_lc_nn E (tm_val t)
      omega
  | hf j a ih =>
    intro u E k r r' hc hc' hs hs' he
    rw [tm_db_fun] at he
    rcases tm_cases u with hu | ⟨i, b, rfl⟩ | ⟨x, y, rfl⟩
    · rw [tm_db_leaf hu] at he
      have := (List.cons.inj he).1
      have h9 := tm_lc_nn E (tm_val u)
      omega
    · obtain ⟨rfl, hc⟩ := hc
      obtain ⟨rfl, hc'⟩ := hc'
      rw [tm_db_fun] at he
      obtain ⟨h1, h2, h3⟩ := ih b (i :: E) _ r r' hc hc' hs hs' (List.cons.inj he).2
      refine ⟨?_, ?_, h3⟩
      · rw [tm_row_fun, tm_row_fun, h1]
      · show 1 + tm_nf a = 1 + tm_nf b
        rw [h2]
    · rw [tm_db_app] at he
      have := (List.cons.inj he).1
      omega
  | ha a b iha ihb =>
    intro u E k r r' hc hc' hs hs' he
    rw [tm_db_app] at he
    rcases tm_cases u with hu | ⟨i, z, rfl⟩ | ⟨x, y, rfl⟩
    · rw [tm_db_leaf hu] at he
      have := (List.cons.inj he).1
      have h9 := tm_lc_nn E (tm_val u)
      omega
    · rw [tm_db_fun] at he
      have := (List.cons.inj he).1
      omega
    · rw [tm_db_app] at he
      have h0 : (tm_db a E ++ tm_db b E) ++ r = (tm_db x E ++ tm_db y E) ++ r' := (List.cons.inj he).2
      rw [List.append_assoc, List.append_assoc] at h0
      obtain ⟨h1, h2, h3⟩ := iha x E k _ _ hc.1 hc'.1 hs.1 hs'.1 h0
      have hcb := hc.2
      rw [h2] at hcb
      obtain ⟨h4, h5, h6⟩ := ihb y E _ _ _ hcb hc'.2 hs.2 hs'.2 h3
      refine ⟨?_, ?_, h6⟩
      · rw [tm_row_app, tm_row_app, h1, h4]
      · show tm_nf a + tm_nf b = tm_nf x + tm_nf y
        rw [h2, h5]
theorem tm_same2 (t : Std.Format) : ∀ u E r r', tm_sc t E → tm_sc u E → tm_row t ++ r = tm_row u ++ r' → tm_db t E = tm_db u E ∧ r = r' := by
  induction t using tm_ind with
  | hl t h =>
    intro u E r r' hs hs' he
    rw [tm_sc_leaf h] at hs
    rw [tm_row_leaf h] at he
    rcases tm_cases u with hu | ⟨j, a, rfl⟩ | ⟨a, b, rfl⟩
    · rw [tm_row_leaf hu] at he
      refine ⟨?_, (List.cons.inj he).2⟩
      rw [tm_db_leaf h, tm_db_leaf hu, (List.cons.inj he).1]
    · rw [tm_row_fun] at he
      have := (List.cons.inj he).1
      omega
    · rw [tm_row_app] at he
      have := (List.cons.inj he).1
      omega
  | hf j a ih =>
    intro u E r r' hs hs' he
    rw [tm_row_fun] at he
    rcases tm_cases u with hu | ⟨i, b, rfl⟩ | ⟨x, y, rfl⟩
    · rw [tm_row_leaf hu] at he
      rw [tm_sc_leaf hu] at hs'
      have := (List.cons.inj he).1
      omega
    · rw [tm_row_fun] at he
      have h0 := (List.cons.inj he).1
      have h00 : j = i := by omega
      subst h00
      obtain ⟨h1, h2⟩ := ih b (j :: E) r r' hs hs' (List.cons.inj he).2
      exact ⟨by rw [tm_db_fun, tm_db_fun, h1], h2⟩
    · rw [tm_row_app] at he
      have := (List.cons.inj he).1
      omega
  | ha a b iha ihb =>
    intro u E r r' hs hs' he
    rw [tm_row_app] at he
    rcases tm_cases u with hu | ⟨i, z, rfl⟩ | ⟨x, y, rfl⟩
    · rw [tm_row_leaf hu] at he
      rw [tm_sc_leaf hu] at hs'
      have := (List.cons.inj he).1
      omega
    · rw [tm_row_fun] at he
      have := (List.cons.inj he).1
      omega
    · rw [tm_row_app] at he
      have h0 : (tm_row a ++ tm_row b) ++ r = (tm_row x ++ tm_row y) ++ r' := (List.cons.inj he).2
      rw [List.append_assoc, List.append_assoc] at h0
      obtain ⟨h1, h2⟩ := iha x E _ _ hs.1 hs'.1 h0
      obtain ⟨h3, h4⟩ := ihb y E _ _ hs.2 hs'.2 h2
      exact ⟨by rw [tm_db_app, tm_db_app, h1, h3], h4⟩
theorem tm_same {t u : Std.Format} (hc : tm_cn t 0) (hc' : tm_cn u 0) (hs : tm_sc t []) (hs' : tm_sc u []) : tm_db t [] = tm_db u [] ↔ tm_row t = tm_row u := by
  constructor
  · intro h
    exact (tm_same1 t u [] 0 [] [] hc hc' hs hs' (by rw [h])).1
  · intro h
    exact (tm_same2 t u [] [] [] hs hs' (by rw [h])).1
/-- the STEP at the place p -/
def tm_ct : Std.Format → Nat → Std.Format
  | .append x y, p => if p = 0 then (match x with
      | .tag j a => tm_sub (-1 - (j : Int)) y a
      | _ => .append x y) else if p - 1 < tm_sz x then .append (tm_ct x (p - 1)) y else .append x (tm_ct y (p - 1 - tm_sz x))
  | .tag j x, p => .tag j (tm_ct x (p - 1))
  | t, _ => t
theorem tm_ct_0 (j : Nat) (a b : Std.Format) : tm_ct (.append (.tag j a) b) 0 = tm_sub (-1 - (j : Int)) b a := rfl
theorem tm_ct_l (x y : Std.Format) {p : Nat} (h : p < tm_sz x) : tm_ct (.append x y) (p + 1) = .append (tm_ct x p) y := by
  show (if p + 1 = 0 then _ else if p + 1 - 1 < tm_sz x then _ else _) = _
  rw [if_neg (by omega), if_pos (by omega)]
  rfl
theorem tm_ct_r (x y : Std.Format) {p : Nat} : tm_ct (.append x y) (tm_sz x + p + 1) = .append x (tm_ct y p) := by
  show (if tm_sz x + p + 1 = 0 then _ else if tm_sz x + p + 1 - 1 < tm_sz x then _ else _) = _
  rw [if_neg (by omega), if_neg (by omega), show tm_sz x + p + 1 - 1 - tm_sz x = p by omega]
theorem tm_ct_f (j : Nat) (x : Std.Format) (p : Nat) : tm_ct (.tag j x) (p + 1) = .tag j (tm_ct x p) := rfl
theorem tm_hole (t : Std.Format) : ∀ p, p < tm_sz t → ∃ (u : Std.Format) (C : Std.Format → Std.Format) (F : List Nat), C u = t ∧ (p + tm_sz u ≤ tm_sz t ∧ tm_dp u ≤ tm_dp t) ∧
    (∀ fa ff fl z E, tm_ln fa ff fl (C z) E = (tm_ln fa ff fl t E).take p ++ (tm_ln fa ff fl z (F ++ E) ++ (tm_ln fa ff fl t E).drop (p + tm_sz u))) ∧
    (∀ E, tm_sc t E → tm_sc u (F ++ E) ∧ ∀ z, tm_sc z (F ++ E) → tm_sc (C z) E) ∧
    (∀ k, tm_cn t k → ∃ k', k ≤ k' ∧ tm_cn u k' ∧ ∀ v ∈ F, k ≤ v ∧ v < k') ∧
    (∀ j a b, u = .append (.tag j a) b → tm_ct t p = C (tm_sub (-1 - (j : Int)) b a)) := by
  have top : ∀ t : Std.Format, ∃ (u : Std.Format) (C : Std.Format → Std.Format) (F : List Nat), C u = t ∧ (0 + tm_sz u ≤ tm_sz t ∧ tm_dp u ≤ tm_dp t) ∧
    (∀ fa ff fl z E, tm_ln fa ff fl (C z) E = (tm_ln fa ff fl t E).take 0 ++ (tm_ln fa ff fl z (F ++ E) ++ (tm_ln fa ff fl t E).drop (0 + tm_sz u))) ∧
    (∀ E, tm_sc t E → tm_sc u (F ++ E) ∧ ∀ z, tm_sc z (F ++ E) → tm_sc (C z) E) ∧
    (∀ k, tm_cn t k → ∃ k', k ≤ k' ∧ tm_cn u k' ∧ ∀ v ∈ F, k ≤ v ∧ v < k') ∧
    (∀ j a b, u = .append (.tag j a) b → tm_ct t 0 = C (tm_sub (-1 - (j : Int)) b a)) := by
    intro t
    refine ⟨t, fun z => z, [], rfl, ⟨by omega, Nat.le_refl _⟩, fun fa ff fl z E => ?_, fun E h => ⟨h, fun z h => h⟩, fun k h => ⟨k, Nat.le_refl _, h, fun v q => by cases q⟩, fun j a b h => by rw [h]; rfl⟩
    have h1 : (tm_ln fa ff fl t E).drop (0 + tm_sz t) = [] := by
      apply List.drop_eq_nil_of_le
      rw [tm_ln_len]
      omega
    rw [h1]
    simp
  induction t using tm_ind with
  | hl t h =>
    intro p hp
    rw [tm_sz_leaf h] at hp
    have : p = 0 := by omega
    subst this
    exact top t
  | hf j a ih =>
    intro p hp
    cases p with
    | zero => exact top _
    | succ p =>
      have hp : p + 1 < 1 + tm_sz a := hp
      obtain ⟨u, C, F, h1, ⟨h2, hdp⟩, h3, h4, h5, h6⟩ := ih p (by omega)
      refine ⟨u, fun z => .tag j (C z), F ++ [j], by show _ = _; simp only [h1], ⟨by show p + 1 + tm_sz u ≤ 1 + tm_sz a; omega, by rw [tm_dp_f]; omega⟩, fun fa ff fl z E => ?_, fun E h => ?_, fun k h => ?_, fun i x y h => ?_⟩
      · rw [tm_ln_fun, tm_ln_fun, h3, List.append_assoc F [j] E, show p + 1 + tm_sz u = (p + tm_sz u) + 1 by omega, List.take_succ_cons, List.drop_succ_cons]
        rfl
      · rw [List.append_assoc F [j] E]
        exact h4 (j :: E) h
      · obtain ⟨rfl, h⟩ := h
        obtain ⟨k', q1, q2, q3⟩ := h5 _ h
        refine ⟨k', by omega, q2, fun v hv => ?_⟩
        rcases List.mem_append.mp hv with q | q
        · have := q3 v q
          omega
        · have : v = j := by simpa using q
          omega
      · rw [tm_ct_f, h6 i x y h]
  | ha a b iha ihb =>
    intro p hp
    cases p with
    | zero => exact top _
    | succ p =>
      have hp : p + 1 < 1 + tm_sz a + tm_sz b := hp
      by_cases hpa : p < tm_sz a
      · obtain ⟨u, C, F, h1, ⟨h2, hdp⟩, h3, h4, h5, h6⟩ := iha p hpa
        refine ⟨u, fun z => .append (C z) b, F, by show _ = _; simp only [h1], ⟨by show p + 1 + tm_sz u ≤ 1 + tm_sz a + tm_sz b; omega, by rw [tm_dp_a]; omega⟩, fun fa ff fl z E => ?_, fun E h => ?_, fun k h => ?_, fun i x y h => ?_⟩
        · have hlen := tm_ln_len (fa := fa) (ff := ff) (fl := fl) a E
          rw [tm_ln_app, tm_ln_app, h3, show p + 1 + tm_sz u = (p + tm_sz u) + 1 by omega, List.take_succ_cons, List.drop_succ_cons, List.take_append_of_le_length (by omega), List.drop_append_of_le_length (by omega)]
          simp [List.append_assoc]
        · exact ⟨(h4 E h.1).1, fun z hz => ⟨(h4 E h.1).2 z hz, h.2⟩⟩
        · exact h5 k h.1
        · rw [tm_ct_l _ _ hpa, h6 i x y h]
      · obtain ⟨q, rfl⟩ : ∃ q, p = tm_sz a + q := ⟨p - tm_sz a, by omega⟩
        obtain ⟨u, C, F, h1, ⟨h2, hdp⟩, h3, h4, h5, h6⟩ := ihb q (by omega)
        refine ⟨u, fun z => .append a (C z), F, by show _ = _; simp only [h1], ⟨by show tm_sz a + q + 1 + tm_sz u ≤ 1 + tm_sz a + tm_sz b; omega, by rw [tm_dp_a]; omega⟩, fun fa ff fl z E => ?_, fun E h => ?_, fun k h => ?_, fun i x y h => ?_⟩
        · have hlen := tm_ln_len (fa := fa) (ff := ff) (fl := fl) a E
          rw [tm_ln_app, tm_ln_app, h3, show tm_sz a + q + 1 + tm_sz u = (tm_sz a + (q + tm_sz u)) + 1 by omega, List.take_succ_cons, List.drop_succ_cons, ← hlen, List.take_length_add_append, List.drop_length_add_append]
          simp [List.append_assoc]
        · exact ⟨(h4 E h.2).1, fun z hz => ⟨h.1, (h4 E h.2).2 z hz⟩⟩
        · obtain ⟨k', q1, q2, q3⟩ := h5 _ h.2
          exact ⟨k', by omega, q2, fun v hv => by have := q3 v hv; omega⟩
        · rw [tm_ct_r, h6 i x y h]
