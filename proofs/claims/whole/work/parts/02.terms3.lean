/-! terms, third part: kinds, ends, depth, counts, the text -/
def tm_kc (x : Int) : Int := if x = -1 then 2 else if x = -2 then 1 else 0
def tm_kr (x : Int) : Int := if x = 1000 then 2 else if 2000 ≤ x then 1 else 0
theorem tm_kc_leaf {x : Int} (h : 0 ≤ x) : tm_kc x = 0 := by
  have h1 : ¬ x = -1 := by omega
  have h2 : ¬ x = -2 := by omega
  simp [tm_kc, h1, h2]
theorem tm_db_ks (t : Std.Format) : ∀ E, (tm_db t E).map tm_kc = tm_ks t := by
  induction t using tm_ind with
  | hl t h => intro E; rw [tm_db_leaf h, tm_ks_leaf h]; simp [tm_kc_leaf (tm_lc_nn _ _)]
  | hf j a ih => intro E; rw [tm_db_fun, tm_ks_fun, List.map_cons, ih]; rfl
  | ha a b iha ihb => intro E; rw [tm_db_app, tm_ks_app, List.map_cons, List.map_append, iha, ihb]; rfl
theorem tm_row_ks (t : Std.Format) : ∀ E, tm_sc t E → (tm_row t).map tm_kr = tm_ks t := by
  induction t using tm_ind with
  | hl t h =>
    intro E hs
    rw [tm_sc_leaf h] at hs
    rw [tm_row_leaf h, tm_ks_leaf h]
    have h1 : ¬ tm_val t = 1000 := by omega
    have h2 : ¬ 2000 ≤ tm_val t := by omega
    simp [tm_kr, h1, h2]
  | hf j a ih =>
    intro E hs
    rw [tm_row_fun, tm_ks_fun, List.map_cons, ih _ hs]
    have h1 : ¬ (2000 + (j : Int)) = 1000 := by omega
    have h2 : 2000 ≤ 2000 + (j : Int) := by omega
    simp [tm_kr, h1, h2]
  | ha a b iha ihb => intro E hs; rw [tm_row_app, tm_ks_app, List.map_cons, List.map_append, iha _ hs.1, ihb _ hs.2]; rfl
/-- how far the part goes that begins here -/
def tm_en (f : Int → Int) : List Int → Nat → Nat
  | [], _ => 0
  | _ :: _, 0 => 0
  | x :: L, d + 1 => 1 + tm_en f L (d + (f x).toNat)
theorem tm_en_0 (f : Int → Int) (L : List Int) : tm_en f L 0 = 0 := by cases L <;> rfl
theorem tm_en_map (f : Int → Int) (L : List Int) : ∀ d, tm_en f L d = tm_en (fun x => x) (L.map f) d := by
  induction L with
  | nil => intro d; rfl
  | cons x L ih =>
    intro d
    cases d with
    | zero => rfl
    | succ d => show 1 + _ = 1 + _; rw [ih]
theorem tm_en_ks (t : Std.Format) : ∀ r d, tm_en (fun x => x) (tm_ks t ++ r) (d + 1) = tm_sz t + tm_en (fun x => x) r d := by
  induction t using tm_ind with
  | hl t h => intro r d; rw [tm_ks_leaf h, tm_sz_leaf h]; rfl
  | hf j a ih =>
    intro r d
    rw [tm_ks_fun]
    show 1 + tm_en _ (tm_ks a ++ r) (d + 1) = 1 + tm_sz a + _
    rw [ih]
    omega
  | ha a b iha ihb =>
    intro r d
    rw [tm_ks_app]
    show 1 + tm_en _ ((tm_ks a ++ tm_ks b) ++ r) (d + 1 + 1) = 1 + tm_sz a + tm_sz b + _
    rw [List.append_assoc, iha, ihb]
    omega
theorem tm_en_db (t : Std.Format) (E : List Nat) (r : List Int) : tm_en tm_kc (tm_db t E ++ r) 1 = tm_sz t := by
  rw [tm_en_map, List.map_append, tm_db_ks, tm_en_ks, tm_en_0]
  omega
theorem tm_en_row {t : Std.Format} {E : List Nat} (hs : tm_sc t E) (r : List Int) : tm_en tm_kr (tm_row t ++ r) 1 = tm_sz t := by
  rw [tm_en_map, List.map_append, tm_row_ks t E hs, tm_en_ks, tm_en_0]
  omega
/-- the class's depth -/
def tm_dd : List Int → List Nat × Nat → Nat → Nat
  | [], _, d => d
  | x :: L, s, d => if d < 150 then tm_dd L (tm_wk 1 1 s x) (max d s.2) else d
theorem tm_dd_ge (L : List Int) : ∀ s d, d ≤ tm_dd L s d := by
  induction L with
  | nil => intro s d; exact Nat.le_refl _
  | cons x L ih =>
    intro s d
    show d ≤ if _ then _ else _
    split
    · have := ih (tm_wk 1 1 s x) (max d s.2)
      omega
    · omega
theorem tm_dd_cons (x : Int) (L : List Int) (s : List Nat × Nat) {d : Nat} (h : d < 150) : tm_dd (x :: L) s d = tm_dd L (tm_wk 1 1 s x) (max d s.2) := if_pos h
theorem tm_dd_db (t : Std.Format) : ∀ E h c d r, h.length ≤ c → d < 150 → (c + tm_dp t ≤ 150 → tm_dd (tm_db t E ++ r) (h, c) d = tm_dd r (tm_pop h) (max d (c + tm_dp t - 1))) ∧ (150 < c + tm_dp t → 150 ≤ tm_dd (tm_db t E ++ r) (h, c) d) := by
  induction t using tm_ind with
  | hl t hl =>
    intro E h c d r hh hd
    rw [tm_db_leaf hl, tm_dp_leaf hl]
    show (_ → tm_dd (_ :: r) _ _ = _) ∧ (_ → _ ≤ tm_dd (_ :: r) _ _)
    rw [tm_dd_cons _ _ _ hd, tm_wk_l _ _ _ (tm_lc_nn _ _)]
    refine ⟨fun _ => ?_, fun q => ?_⟩
    · rfl
    · have := tm_dd_ge r (tm_pop h) (max d c)
      show 150 ≤ tm_dd r (tm_pop h) (max d c)
      omega
  | hf j a ih =>
    intro E h c d r hh hd
    rw [tm_db_fun, tm_dp_f]
    show (_ → tm_dd (_ :: (tm_db a (j :: E) ++ r)) _ _ = _) ∧ (_ → _ ≤ tm_dd (_ :: (tm_db a (j :: E) ++ r)) _ _)
    rw [tm_dd_cons _ _ _ hd, tm_wk_f]
    show (_ → tm_dd _ (h, c + 1) (max d c) = _) ∧ (_ → _ ≤ tm_dd _ (h, c + 1) (max d c))
    by_cases hc : c < 150
    · have h1 := ih (j :: E) h (c + 1) (max d c) r (by omega) (by omega)
      have h2 := tm_dp_pos a
      refine ⟨fun q => ?_, fun q => h1.2 (by omega)⟩
      rw [h1.1 (by omega)]
      congr 1
      omega
    · have h2 := tm_dp_pos a
      refine ⟨fun q => by omega, fun q => ?_⟩
      have := tm_dd_ge (tm_db a (j :: E) ++ r) (h, c + 1) (max d c)
      omega
  | ha a b iha ihb =>
    intro E h c d r hh hd
    have ha2 := tm_dp_pos a
    have hb2 := tm_dp_pos b
    rw [tm_db_app, tm_dp_a]
    show (_ → tm_dd (_ :: ((tm_db a E ++ tm_db b E) ++ r)) _ _ = _) ∧ (_ → _ ≤ tm_dd (_ :: ((tm_db a E ++ tm_db b E) ++ r)) _ _)
    rw [tm_dd_cons _ _ _ hd]
    by_cases hc : c < 150
    · rw [tm_wk_a _ _ (by omega), List.append_assoc]
      show (_ → tm_dd _ ((c + 1) :: h, c + 1) (max d c) = _) ∧ (_ → _ ≤ tm_dd _ ((c + 1) :: h, c + 1) (max d c))
      have h1 := iha E ((c + 1) :: h) (c + 1) (max d c) (tm_db b E ++ r) (by simp; omega) (by omega)
      by_cases hca : c + 1 + tm_dp a ≤ 150
      · rw [h1.1 hca]
        show (_ → tm_dd _ (h, c + 1) _ = _) ∧ (_ → _ ≤ tm_dd _ (h, c + 1) _)
        have h3 := ihb E h (c + 1) (max (max d c) (c + 1 + tm_dp a - 1)) r (by omega) (by omega)
        refine ⟨fun q => ?_, fun q => h3.2 (by omega)⟩
        rw [h3.1 (by omega)]
        congr 1
        omega
      · exact ⟨fun q => by omega, fun q => h1.2 (by omega)⟩
    · refine ⟨fun q => by omega, fun q => ?_⟩
      have := tm_dd_ge ((tm_db a E ++ tm_db b E) ++ r) (tm_wk 1 1 (h, c) (-1)) (max d c)
      show 150 ≤ tm_dd _ _ (max d c)
      omega
theorem tm_dd_dp (t : Std.Format) (E : List Nat) : (tm_dp t ≤ 150 → tm_dd (tm_db t E) ([], 0) 0 + 1 = tm_dp t) ∧ (150 < tm_dp t → 150 < tm_dd (tm_db t E) ([], 0) 0 + 1) := by
  have h := tm_dd_db t E [] 0 0 [] (Nat.le_refl _) (by omega)
  have h1 := tm_dp_pos t
  rw [List.append_nil] at h
  refine ⟨fun q => ?_, fun q => ?_⟩
  · rw [h.1 (by omega)]
    show max 0 (0 + tm_dp t - 1) + 1 = _
    omega
  · have := h.2 (by omega)
    omega
/-- the text -/
def tm_dg (n : Int) : List Int := (if 10 ≤ n then [48 + n / 10] else []) ++ [48 + n % 10]
def tm_tx : Std.Format → List Nat → List Int
  | .append a b, E => 40 :: (tm_tx a E ++ 32 :: (tm_tx b E ++ [41]))
  | .tag j a, E => 46 :: tm_tx a (j :: E)
  | t, E => if 0 ≤ tm_val t then tm_dg (tm_val t) else List.replicate (tm_ix (-1 - tm_val t).toNat E + 1) 39
theorem tm_tx_leaf {t : Std.Format} (h : tm_leaf t = true) (E : List Nat) : tm_tx t E = if 0 ≤ tm_val t then tm_dg (tm_val t) else List.replicate (tm_ix (-1 - tm_val t).toNat E + 1) 39 := by cases t <;> first | rfl | cases h
theorem tm_tx_app (a b : Std.Format) (E : List Nat) : tm_tx (.append a b) E = 40 :: (tm_tx a E ++ 32 :: (tm_tx b E ++ [41])) := rfl
theorem tm_tx_fun (j : Nat) (a : Std.Format) (E : List Nat) : tm_tx (.tag j a) E = 46 :: tm_tx a (j :: E) := rfl
def tm_lf (x : Int) : List Int := if 99 < x then List.replicate (x - 99).toNat 39 else tm_dg x
def tm_s1 (x : Int) (k : Nat) (last : Bool) : List Int := if x = -1 then [40] else if x = -2 then [46] else tm_lf x ++ (List.replicate k 41 ++ if last = true then [] else [32])
def tm_sh : List Int → List Nat × Nat → List Int
  | [], _ => []
  | x :: L, s => tm_s1 x (s.2 - (tm_wk 1 0 s x).2) L.isEmpty ++ tm_sh L (tm_wk 1 0 s x)
theorem tm_sh_cons (x : Int) (L : List Int) (s : List Nat × Nat) : tm_sh (x :: L) s = tm_s1 x (s.2 - (tm_wk 1 0 s x).2) L.isEmpty ++ tm_sh L (tm_wk 1 0 s x) := rfl
theorem tm_s1_leaf {x : Int} (h : 0 ≤ x) (k : Nat) (last : Bool) : tm_s1 x k last = tm_lf x ++ (List.replicate k 41 ++ if last = true then [] else [32]) := by
  have h1 : ¬ x = -1 := by omega
  have h2 : ¬ x = -2 := by omega
  simp [tm_s1, h1, h2]
theorem tm_lf_lc (t : Std.Format) (h : tm_leaf t = true) (E : List Nat) (hs : tm_sc t E) : tm_lf (tm_lc E (tm_val t)) = tm_tx t E := by
  rw [tm_tx_leaf h]
  rw [tm_sc_leaf h] at hs
  unfold tm_lf
  rcases hs with hs | ⟨h1, h2⟩
  · rw [tm_lc_free hs.1, if_neg (by omega), if_pos hs.1]
  · rw [tm_lc_var h1, if_pos (by omega), if_neg (by omega)]
    congr 1
    omega
theorem tm_db_ne (t : Std.Format) (E : List Nat) (r : List Int) : (tm_db t E ++ r).isEmpty = false := by
  have h1 := tm_db_len t E
  have h2 := tm_sz_pos t
  cases hd : tm_db t E with
  | nil => rw [hd] at h1; simp at h1; omega
  | cons x L => rfl
theorem tm_sh_db (t : Std.Format) : ∀ E h c r, h.length + tm_dp t ≤ 151 → tm_sc t E → (tm_pop h).2 ≤ c →
    tm_sh (tm_db t E ++ r) (h, c) = tm_tx t E ++ (List.replicate (c - (tm_pop h).2) 41 ++ ((if r.isEmpty = true then [] else [32]) ++ tm_sh r (tm_pop h))) := by
  induction t using tm_ind with
  | hl t hl =>
    intro E h c r hh hs hc
    rw [tm_db_leaf hl]
    show tm_sh (_ :: r) _ = _
    rw [tm_sh_cons, tm_wk_l _ _ _ (tm_lc_nn _ _), tm_s1_leaf (tm_lc_nn _ _), tm_lf_lc t hl E hs]
    simp [List.append_assoc]
  | hf j a ih =>
    intro E h c r hh hs hc
    rw [tm_dp_f] at hh
    rw [tm_db_fun, tm_tx_fun]
    show tm_sh (_ :: (tm_db a (j :: E) ++ r)) _ = _
    rw [tm_sh_cons, tm_wk_f]
    show tm_s1 (-2) _ _ ++ tm_sh _ (h, c) = _
    rw [ih (j :: E) h c r (by omega) hs hc]
    rfl
  | ha a b iha ihb =>
    intro E h c r hh hs hc
    rw [tm_dp_a] at hh
    have hx := tm_dp_pos a
    rw [tm_db_app, tm_tx_app]
    show tm_sh (_ :: ((tm_db a E ++ tm_db b E) ++ r)) _ = _
    rw [tm_sh_cons, tm_wk_a _ _ (by omega), List.append_assoc, iha E ((c + 1) :: h) (c + 1) (tm_db b E ++ r) (by simp; omega) hs.1 (Nat.le_refl _)]
    show tm_s1 (-1) _ _ ++ (tm_tx a E ++ (List.replicate (c + 1 - (c + 1)) 41 ++ (_ ++ tm_sh (tm_db b E ++ r) (h, c + 1)))) = _
    rw [ihb E h (c + 1) r (by omega) hs.2 (by omega), tm_db_ne b E r, Nat.sub_self, show c + 1 - (tm_pop h).2 = (c - (tm_pop h).2) + 1 by omega, List.replicate_succ]
    show [40] ++ _ = _
    simp [List.append_assoc]
theorem tm_sh_tx {t : Std.Format} (hd : tm_dp t ≤ 150) (hs : tm_sc t []) : tm_sh (tm_db t []) ([], 0) = tm_tx t [] := by
  have h := tm_sh_db t [] [] 0 [] (by simp; omega) hs (Nat.le_refl _)
  rw [List.append_nil] at h
  rw [h]
  simp [tm_sh, tm_pop]
theorem tm_tx_len (t : Std.Format) : ∀ E, E.length + tm_dp t ≤ 150 → tm_sc t E → (tm_tx t E).length ≤ tm_sz t * 150 := by
  induction t using tm_ind with
  | hl t hl =>
    intro E hE hs
    rw [tm_dp_leaf hl] at hE
    rw [tm_tx_leaf hl, tm_sz_leaf hl]
    rw [tm_sc_leaf hl] at hs
    rcases hs with hs | ⟨h1, h2⟩
    · rw [if_pos hs.1]
      unfold tm_dg
      split <;> simp
    · rw [if_neg (by omega), List.length_replicate]
      have := tm_ix_in h2
      omega
  | hf j a ih =>
    intro E hE hs
    rw [tm_dp_f] at hE
    rw [tm_tx_fun]
    have h1 := ih (j :: E) (by simp; omega) hs
    show _ + 1 ≤ (1 + tm_sz a) * 150
    omega
  | ha a b iha ihb =>
    intro E hE hs
    rw [tm_dp_a] at hE
    rw [tm_tx_app]
    have h1 := iha E (by omega) hs.1
    have h2 := ihb E (by omega) hs.2
    show (tm_tx a E ++ 32 :: (tm_tx b E ++ [41])).length + 1 ≤ (1 + tm_sz a + tm_sz b) * 150
    simp only [List.length_append, List.length_cons, List.length_nil]
    omega
theorem tm_count (n : Int) (h0 : 0 ≤ n) (h9 : n ≤ 99) (t : Std.Format) : ∀ E, tm_sc t E → (tm_db t E).count n = (tm_row t).count n := by
  induction t using tm_ind with
  | hl t hl =>
    intro E hs
    rw [tm_db_leaf hl, tm_row_leaf hl]
    rw [tm_sc_leaf hl] at hs
    rcases hs with hs | ⟨h1, h2⟩
    · rw [tm_lc_free hs.1]
    · have h3 : ¬ tm_lc E (tm_val t) = n := by rw [tm_lc_var h1]; omega
      have h4 : ¬ tm_val t = n := by omega
      simp [List.count_cons, h3, h4]
  | hf j a ih =>
    intro E hs
    have h1 : ¬ (-2 : Int) = n := by omega
    have h2 : ¬ (2000 + (j : Int)) = n := by omega
    rw [tm_db_fun, tm_row_fun, List.count_cons, List.count_cons, ih _ hs]
    simp [h1, h2]
  | ha a b iha ihb =>
    intro E hs
    have h1 : ¬ (-1 : Int) = n := by omega
    have h2 : ¬ (1000 : Int) = n := by omega
    rw [tm_db_app, tm_row_app, List.count_cons, List.count_cons, List.count_append, List.count_append, iha _ hs.1, ihb _ hs.2]
    simp [h1, h2]
