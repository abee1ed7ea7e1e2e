/-! rows of terms, as the class has them; Workshop: reduce -/
theorem tm_db_bd (t : Std.Format) : ∀ E, tm_sc t E → ∀ x ∈ tm_db t E, -2 ≤ x ∧ x ≤ 100 + (E.length : Int) + tm_sz t := by
  induction t using tm_ind with
  | hl t h =>
    intro E hs x hx
    rw [tm_db_leaf h] at hx
    rw [tm_sc_leaf h] at hs
    rw [tm_sz_leaf h]
    have hx : x = tm_lc E (tm_val t) := by simpa using hx
    rcases hs with hs | ⟨h1, h2⟩
    · rw [tm_lc_free hs.1] at hx; omega
    · rw [tm_lc_var h1] at hx
      have := tm_ix_in h2
      omega
  | hf j a ih =>
    intro E hs x hx
    show -2 ≤ x ∧ x ≤ 100 + (E.length : Int) + ((1 + tm_sz a : Nat) : Int)
    rw [tm_db_fun] at hx
    rcases List.mem_cons.mp hx with e | e
    · omega
    · have := ih (j :: E) hs x e
      rw [List.length_cons] at this
      omega
  | ha a b iha ihb =>
    intro E hs x hx
    show -2 ≤ x ∧ x ≤ 100 + (E.length : Int) + ((1 + tm_sz a + tm_sz b : Nat) : Int)
    rw [tm_db_app] at hx
    rcases List.mem_cons.mp hx with e | e
    · omega
    · rcases List.mem_append.mp e with e | e
      · have := iha E hs.1 x e; omega
      · have := ihb E hs.2 x e; omega
theorem tm_db_b {t : Std.Format} (hs : tm_sc t []) (hz : tm_sz t ≤ 2000) : ∀ x ∈ tm_db t [], -2 ≤ x ∧ x ≤ 1000000 := fun x hx => by
  have := tm_db_bd t [] hs x hx
  rw [List.length_nil] at this
  omega
theorem tm_bad (X : Std.Format) : pt_bad (tm_db X []) ↔ tm_chk X = none := by
  have h1 := tm_dd_dp X []
  have h2 := tm_dp_sz X
  unfold pt_bad tm_chk
  rw [tm_db_len]
  by_cases hc : tm_sz X ≤ 2000 ∧ tm_dp X ≤ 150
  · rw [if_pos hc]
    constructor
    · intro h
      have := h1.1 hc.2
      omega
    · intro h; cases h
  · rw [if_neg hc]
    refine ⟨fun _ => rfl, fun _ => ?_⟩
    by_cases hz : tm_sz X ≤ 2000
    · have hd : 150 < tm_dp X := by omega
      exact Or.inr ⟨by omega, h1.2 hd⟩
    · exact Or.inl (by omega)
theorem pt_rx_tm (t : Std.Format) (i : Nat) : pt_rx (tm_db t []) i ↔ tm_rx t i := (tm_rx_db t [] i).symm
theorem tm_f1_is {t : Std.Format} {p : Nat} (h : tm_rx t p) (hn : ∀ q, q < p → ¬ tm_rx t q) : tm_f1 (tm_ks t) = some p := by
  cases hf : tm_f1 (tm_ks t) with
  | none => exact absurd h (tm_f1_none _ hf p)
  | some q =>
    obtain ⟨h1, h2⟩ := tm_f1_some _ q hf
    rcases Nat.lt_trichotomy p q with e | e | e
    · exact absurd h (h2 p e)
    · rw [e]
    · exact absurd h1 (hn q e)
theorem tm_f1_no {t : Std.Format} (hn : ∀ q, ¬ tm_rx t q) : tm_f1 (tm_ks t) = none := by
  cases hf : tm_f1 (tm_ks t) with
  | none => rfl
  | some q => exact absurd (tm_f1_some _ q hf).1 (hn q)
theorem tm_ks_db (t : Std.Format) (i : Nat) : (tm_ks t)[i]? = some 2 ↔ (tm_db t [])[i]? = some (-1) := by
  rw [← tm_db_ks t [], List.getElem?_map]
  cases h : (tm_db t [])[i]? with
  | none => simp
  | some x =>
    constructor
    · intro e
      rw [tm_kc_2 (Option.some.inj e)]
    · intro e
      rw [Option.some.inj e]; rfl
theorem tm_h1_is {t : Std.Format} {p : Nat} (h : tm_rx t p) (hn : ∀ q, q < p → (tm_ks t)[q]? = some 2 ∧ ¬ tm_rx t q) : tm_h1 (tm_ks t) = some p := by
  cases hf : tm_h1 (tm_ks t) with
  | none => exact absurd h (tm_h1_none _ hf p (fun r hr => ⟨(hn r hr).1, fun e => (hn r hr).2 ⟨(hn r hr).1, e⟩⟩))
  | some q =>
    obtain ⟨h1, h2⟩ := tm_h1_some _ q hf
    rcases Nat.lt_trichotomy p q with e | e | e
    · exact absurd h.2 (h2 p e).2
    · rw [e]
    · exact absurd h1 (hn q e).2
theorem tm_h1_no {t : Std.Format} (hn : ∀ i, (∀ j, j < i → (tm_ks t)[j]? = some 2 ∧ ¬ tm_rx t j) → ¬ tm_rx t i) : tm_h1 (tm_ks t) = none := by
  cases hf : tm_h1 (tm_ks t) with
  | none => rfl
  | some q =>
    obtain ⟨h1, h2⟩ := tm_h1_some _ q hf
    exact absurd h1 (hn q (fun j hj => ⟨(h2 j hj).1, fun e => (h2 j hj).2 e.2⟩))
/-- the STEP at p, as Workshop.contract does it -/
theorem tm_con {t : Std.Format} (hok : tm_ok t) {p : Nat} (hp : tm_rx t p) : ∃ e1 e2, p + 1 + tm_en tm_kc ((tm_db t []).drop (p + 1)) 1 = e1 ∧ e1 + tm_en tm_kc ((tm_db t []).drop e1) 1 = e2 ∧ p + 2 ≤ e1 ∧ e2 ≤ (tm_db t []).length ∧
    (tm_db t []).take p ++ (pt_fill (((tm_db t []).drop (p + 2)).take (e1 - (p + 2))) (((tm_db t []).drop e1).take (e2 - e1)) ([], 0) ++ (tm_db t []).drop e2) = tm_db (tm_ct t p) [] ∧ tm_sc (tm_ct t p) [] := by
  obtain ⟨j, a, b, F, pre, post, pre', post', h1, -, h3, -, h5, -, h7, -, -, -, -⟩ := tm_step hok hp
  have hla := tm_db_len a (j :: F)
  have hlb := tm_db_len b F
  have d1 : (tm_db t []).drop (p + 1) = -2 :: (tm_db a (j :: F) ++ (tm_db b F ++ post)) := by
    rw [h3, ← h1, List.drop_length_add_append]; rfl
  have d2 : (tm_db t []).drop (p + 2) = tm_db a (j :: F) ++ (tm_db b F ++ post) := by
    rw [h3, ← h1, List.drop_length_add_append]; rfl
  have d3 : (tm_db t []).drop (p + 2 + tm_sz a) = tm_db b F ++ post := by
    rw [← List.drop_drop, d2, ← hla, List.drop_left]
  have d4 : (tm_db t []).drop (p + 2 + tm_sz a + tm_sz b) = post := by
    rw [← List.drop_drop, d3, ← hlb, List.drop_left]
  refine ⟨p + 2 + tm_sz a, p + 2 + tm_sz a + tm_sz b, ?_, ?_, by omega, ?_, ?_, h7⟩
  · rw [d1]
    have := tm_en_db (.tag j a) F (tm_db b F ++ post)
    rw [tm_db_fun] at this
    have e : tm_sz (.tag j a) = 1 + tm_sz a := rfl
    rw [e] at this
    have t2 : tm_en tm_kc (-2 :: (tm_db a (j :: F) ++ (tm_db b F ++ post))) 1 = 1 + tm_sz a := this
    rw [t2]; omega
  · rw [d3, tm_en_db]
  · rw [h3]
    simp only [List.length_append, List.length_cons]
    omega
  · rw [h5, d2, d3, d4, show p + 2 + tm_sz a - (p + 2) = tm_sz a by omega, show p + 2 + tm_sz a + tm_sz b - (p + 2 + tm_sz a) = tm_sz b by omega, ← hla, List.take_left, ← hlb, List.take_left, h3, ← h1, List.take_left]
    rfl
/-- what stands before a STEP's place stays -/
theorem tm_con_pre {t : Std.Format} (hok : tm_ok t) {p : Nat} (hp : tm_rx t p) {j : Nat} (hj : j < p) : (tm_db (tm_ct t p) [])[j]? = (tm_db t [])[j]? := by
  obtain ⟨_, a, b, F, pre, post, pre', post', h1, -, h3, -, h5, -⟩ := tm_step hok hp
  rw [h5, h3, List.getElem?_append_left (by omega), List.getElem?_append_left (by omega)]
theorem ci_max0 (p : Nat) (hp : p < 1000000) : (if (0 : Int32) < nI p - nI 1 then nI p - nI 1 else 0) = nI (p - 1) := by
  cases p with
  | zero => decide
  | succ p =>
    rw [pk_sub (by omega), show p + 1 - 1 = p by omega]
    cases p with
    | zero => decide
    | succ p => rw [if_pos (show (0 : Int32) < nI (p + 1) from nI_lt (a := 0) (b := p + 1) (by omega) (by omega))]
