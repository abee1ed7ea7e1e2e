/-! terms, fourth part: what the calls make of terms -/
def tm_ok (t : Std.Format) : Prop := tm_sc t [] ∧ tm_cn t 0 ∧ tm_sz t ≤ 2000 ∧ tm_dp t ≤ 150
def tm_chk (X : Std.Format) : Option Std.Format := if tm_sz X ≤ 2000 ∧ tm_dp X ≤ 150 then some (tm_can X) else none
theorem tm_chk_ok {X t : Std.Format} (hs : tm_sc X []) (h : tm_chk X = some t) : tm_ok t ∧ tm_db t [] = tm_db X [] ∧ t = tm_can X ∧ tm_sz X ≤ 2000 ∧ tm_dp X ≤ 150 := by
  unfold tm_chk at h
  by_cases hc : tm_sz X ≤ 2000 ∧ tm_dp X ≤ 150
  · rw [if_pos hc] at h
    have h1 := (Option.some.inj h).symm
    subst h1
    refine ⟨⟨tm_can_sc hs, tm_rn_cn X _ 0, ?_, ?_⟩, tm_can_db hs, rfl, hc⟩
    · show tm_sz (tm_rn X _ 0) ≤ 2000
      rw [tm_rn_sz]; exact hc.1
    · show tm_dp (tm_rn X _ 0) ≤ 150
      rw [tm_rn_dp]; exact hc.2
  · rw [if_neg hc] at h
    cases h
theorem tm_chk_no {X : Std.Format} (h : tm_chk X = none) : 2000 < tm_sz X ∨ 150 < tm_dp X := by
  unfold tm_chk at h
  by_cases hc : tm_sz X ≤ 2000 ∧ tm_dp X ≤ 150
  · rw [if_pos hc] at h
    cases h
  · omega
/-- a place where there is a STEP -/
def tm_rx (t : Std.Format) (p : Nat) : Prop := (tm_ks t)[p]? = some 2 ∧ (tm_ks t)[p + 1]? = some 1
theorem tm_rx_lt {t : Std.Format} {p : Nat} (h : tm_rx t p) : p + 1 < tm_sz t := by
  have := (List.getElem?_eq_some_iff.mp h.2).1
  rw [tm_ks_len] at this
  exact this
theorem tm_kc_2 {x : Int} (h : tm_kc x = 2) : x = -1 := by
  unfold tm_kc at h
  split at h
  · assumption
  · split at h <;> omega
theorem tm_kc_1 {x : Int} (h : tm_kc x = 1) : x = -2 := by
  unfold tm_kc at h
  split at h
  · omega
  · split at h
    · assumption
    · omega
theorem tm_kr_2 {x : Int} (h : tm_kr x = 2) : x = 1000 := by
  unfold tm_kr at h
  split at h
  · assumption
  · split at h <;> omega
theorem tm_kr_1 {x : Int} (h : tm_kr x = 1) : 2000 ≤ x := by
  unfold tm_kr at h
  split at h
  · omega
  · split at h
    · assumption
    · omega
theorem tm_rx_db (t : Std.Format) (E : List Nat) (p : Nat) : tm_rx t p ↔ ((tm_db t E)[p]? = some (-1) ∧ (tm_db t E)[p + 1]? = some (-2)) := by
  unfold tm_rx
  rw [← tm_db_ks t E, List.getElem?_map, List.getElem?_map]
  constructor
  · rintro ⟨h1, h2⟩
    cases ha : (tm_db t E)[p]? with
    | none => rw [ha] at h1; cases h1
    | some x =>
      cases hb : (tm_db t E)[p + 1]? with
      | none => rw [hb] at h2; cases h2
      | some z =>
        rw [ha] at h1
        rw [hb] at h2
        have e1 := tm_kc_2 (Option.some.inj h1)
        have e2 := tm_kc_1 (Option.some.inj h2)
        exact ⟨by rw [e1], by rw [e2]⟩
  · rintro ⟨h1, h2⟩
    rw [h1, h2]
    exact ⟨rfl, rfl⟩
theorem tm_rx_row (t : Std.Format) {E : List Nat} (hs : tm_sc t E) (p : Nat) : tm_rx t p ↔ ((tm_row t)[p]? = some 1000 ∧ ∃ x, (tm_row t)[p + 1]? = some x ∧ 2000 ≤ x) := by
  unfold tm_rx
  rw [← tm_row_ks t E hs, List.getElem?_map, List.getElem?_map]
  constructor
  · rintro ⟨h1, h2⟩
    cases ha : (tm_row t)[p]? with
    | none => rw [ha] at h1; cases h1
    | some x =>
      cases hb : (tm_row t)[p + 1]? with
      | none => rw [hb] at h2; cases h2
      | some z =>
        rw [ha] at h1
        rw [hb] at h2
        have e1 := tm_kr_2 (Option.some.inj h1)
        have e2 := tm_kr_1 (Option.some.inj h2)
        exact ⟨by rw [e1], z, rfl, e2⟩
  · rintro ⟨h1, x, h2, h3⟩
    rw [h1, h2]
    refine ⟨rfl, ?_⟩
    have h4 : ¬ x = 1000 := by omega
    show some (tm_kr x) = some 1
    simp [tm_kr, h4, h3]
theorem tm_head2 {u : Std.Format} {E : List Nat} {r : List Int} (h1 : (tm_db u E ++ r)[0]? = some (-1)) (h2 : (tm_db u E ++ r)[1]? = some (-2)) : ∃ j a b, u = .append (.tag j a) b := by
  rcases tm_cases u with hu | ⟨j, a, rfl⟩ | ⟨a, b, rfl⟩
  · rw [tm_db_leaf hu] at h1
    have h3 := tm_lc_nn E (tm_val u)
    have : tm_lc E (tm_val u) = -1 := by simpa using h1
    omega
  · rw [tm_db_fun] at h1
    have : (-2 : Int) = -1 := by simpa using h1
    omega
  · rw [tm_db_app] at h2
    rcases tm_cases a with ha | ⟨j, x, rfl⟩ | ⟨x, y, rfl⟩
    · rw [tm_db_leaf ha] at h2
      have h3 := tm_lc_nn E (tm_val a)
      have : tm_lc E (tm_val a) = -2 := by simpa using h2
      omega
    · exact ⟨j, x, b, rfl⟩
    · rw [tm_db_app] at h2
      have : (-1 : Int) = -2 := by simpa using h2
      omega
/-- the STEP, in the class's rows and in the reference's -/
theorem tm_step {t : Std.Format} (hok : tm_ok t) {p : Nat} (hp : tm_rx t p) : ∃ (j : Nat) (a b : Std.Format) (F : List Nat) (pre post pre' post' : List Int),
    pre.length = p ∧ pre'.length = p ∧
    tm_db t [] = pre ++ (-1 :: -2 :: (tm_db a (j :: F) ++ (tm_db b F ++ post))) ∧
    tm_row t = pre' ++ (1000 :: (2000 + (j : Int)) :: (tm_row a ++ (tm_row b ++ post'))) ∧
    tm_db (tm_ct t p) [] = pre ++ (tm_fl 0 1 (tm_gf (fun c => tm_fl 0 1 (tm_gr c) (tm_db b F) ([], 0))) (tm_db a (j :: F)) ([], 0) ++ post) ∧
    tm_row (tm_ct t p) = pre' ++ ((tm_row a).flatMap (fun x => if x = -1 - (j : Int) then tm_row b else [x]) ++ post') ∧
    tm_sc (tm_ct t p) [] ∧ tm_sc a (j :: F) ∧ tm_sc b F ∧ tm_dp a ≤ 148 ∧ tm_dp b ≤ 149 := by
  obtain ⟨hs, hc, hz, hd⟩ := hok
  have hlt := tm_rx_lt hp
  obtain ⟨u, C, F, h1, ⟨h2, hdp⟩, h3, h4, h5, h6⟩ := tm_hole t p (by omega)
  have hdb : ∀ z, tm_db (C z) [] = (tm_db t []).take p ++ (tm_db z F ++ (tm_db t []).drop (p + tm_sz u)) := fun z => by
    have := h3 (-1) (fun _ => -2) tm_lc z []
    rw [List.append_nil] at this
    exact this
  have hrw : ∀ z, tm_row (C z) = (tm_row t).take p ++ (tm_row z ++ (tm_row t).drop (p + tm_sz u)) := fun z => by
    have := h3 1000 (fun j => 2000 + (j : Int)) (fun _ n => n) z []
    rw [List.append_nil, tm_ln_env (g := fun n => n) z F] at this
    exact this
  have hlen : ((tm_db t []).take p).length = p := by
    rw [List.length_take, tm_db_len]
    omega
  have hlen' : ((tm_row t).take p).length = p := by
    rw [List.length_take, tm_row_len]
    omega
  obtain ⟨q1, q2⟩ := (tm_rx_db t [] p).mp hp
  have hu := hdb u
  rw [h1] at hu
  rw [hu, List.getElem?_append_right (by omega), hlen, Nat.sub_self] at q1
  rw [hu, List.getElem?_append_right (by omega), hlen, Nat.add_sub_cancel_left] at q2
  obtain ⟨j, a, b, rfl⟩ := tm_head2 q1 q2
  have hsc := (h4 [] hs).1
  rw [List.append_nil] at hsc
  obtain ⟨hsa, hsb⟩ := hsc
  have hsa : tm_sc a (j :: F) := hsa
  obtain ⟨k', k1, k2, k3⟩ := h5 0 hc
  obtain ⟨⟨rfl, kca⟩, kcb⟩ := k2
  have hfn := tm_cn_fn a _ kca
  rw [tm_dp_a, tm_dp_f] at hdp
  have hsub : tm_db (tm_sub (-1 - (j : Int)) b a) F = tm_fl 0 1 (tm_gf (fun c => tm_fl 0 1 (tm_gr c) (tm_db b F) ([], 0))) (tm_db a (j :: F)) ([], 0) := by
    have h8 := tm_fill (fun c => tm_fl 0 1 (tm_gr c) (tm_db b F) ([], 0)) b j F (fun G hG => ?_) a [] [] (by simp; omega) hsa (by simp) (by simp) (fun n hn => ?_)
    · rw [List.nil_append] at h8
      exact h8.symm
    · have h9 := tm_raise G.length b G F rfl hG [] [] (by simp; omega) hsb
      exact h9
    · have := hfn n hn
      refine ⟨by omega, fun q => ?_⟩
      have := k3 n q
      omega
  refine ⟨j, a, b, F, (tm_db t []).take p, (tm_db t []).drop (p + tm_sz (.append (.tag j a) b)), (tm_row t).take p, (tm_row t).drop (p + tm_sz (.append (.tag j a) b)), hlen, hlen', ?_, ?_, ?_, ?_, ?_, hsa, hsb, by omega, by omega⟩
  · refine hu.trans ?_
    rw [tm_db_app, tm_db_fun]
    simp [List.append_assoc]
  · have hr := hrw (.append (.tag j a) b)
    rw [h1] at hr
    refine hr.trans ?_
    rw [tm_row_app, tm_row_fun]
    simp [List.append_assoc]
  · rw [h6 j a b rfl, hdb, hsub]
  · rw [h6 j a b rfl, hrw, tm_row_sub (by omega)]
  · rw [h6 j a b rfl]
    refine (h4 [] hs).2 _ ?_
    rw [List.append_nil]
    have := tm_sub_sc (-1 - (j : Int)) b F hsb (j :: F) (fun v hv => ?_) a [] hsa
    · exact this
    · rcases List.mem_cons.mp hv with q | q
      · exact Or.inr (by rw [q])
      · exact Or.inl q
/-- the first STEP's place; that of the HEAD -/
def tm_f1 : List Int → Option Nat
  | x :: y :: L => if x = 2 ∧ y = 1 then some 0 else (tm_f1 (y :: L)).map (· + 1)
  | _ => none
def tm_h1 : List Int → Option Nat
  | x :: y :: L => if x = 2 then (if y = 1 then some 0 else (tm_h1 (y :: L)).map (· + 1)) else none
  | _ => none
theorem tm_f1_some (K : List Int) : ∀ p, tm_f1 K = some p → (K[p]? = some 2 ∧ K[p + 1]? = some 1) ∧ ∀ q, q < p → ¬ (K[q]? = some 2 ∧ K[q + 1]? = some 1) := by
  induction K with
  | nil => intro p h; cases h
  | cons x K ih =>
    intro p h
    cases K with
    | nil => cases h
    | cons y L =>
      have h : (if x = 2 ∧ y = 1 then some 0 else (tm_f1 (y :: L)).map (· + 1)) = some p := h
      by_cases hc : x = 2 ∧ y = 1
      · rw [if_pos hc] at h
        have := Option.some.inj h
        subst this
        exact ⟨by simp [hc.1, hc.2], fun q hq => by omega⟩
      · rw [if_neg hc] at h
        cases hf : tm_f1 (y :: L) with
        | none => rw [hf] at h; cases h
        | some p' =>
          rw [hf] at h
          have hp : p = p' + 1 := (Option.some.inj h).symm
          subst hp
          obtain ⟨h1, h2⟩ := ih p' hf
          refine ⟨by simpa using h1, fun q hq => ?_⟩
          cases q with
          | zero => simpa using hc
          | succ q => simpa using h2 q (by omega)
theorem tm_f1_none (K : List Int) : tm_f1 K = none → ∀ q : Nat, ¬ (K[q]? = some 2 ∧ K[q + 1]? = some 1) := by
  induction K with
  | nil => intro _ q; simp
  | cons x K ih =>
    intro h q
    cases K with
    | nil => simp
    | cons y L =>
      have h : (if x = 2 ∧ y = 1 then some 0 else (tm_f1 (y :: L)).map (· + 1)) = none := h
      by_cases hc : x = 2 ∧ y = 1
      · rw [if_pos hc] at h; cases h
      · rw [if_neg hc] at h
        cases hf : tm_f1 (y :: L) with
        | some p' => rw [hf] at h; cases h
        | none =>
          cases q with
          | zero => simpa using hc
          | succ q => simpa using ih hf q
theorem tm_h1_some (K : List Int) : ∀ p, tm_h1 K = some p → (K[p]? = some 2 ∧ K[p + 1]? = some 1) ∧ ∀ q, q < p → K[q]? = some 2 ∧ ¬ K[q + 1]? = some 1 := by
  induction K with
  | nil => intro p h; cases h
  | cons x K ih =>
    intro p h
    cases K with
    | nil => cases h
    | cons y L =>
      have h : (if x = 2 then (if y = 1 then some 0 else (tm_h1 (y :: L)).map (· + 1)) else none) = some p := h
      by_cases hx : x = 2
      · rw [if_pos hx] at h
        by_cases hy : y = 1
        · rw [if_pos hy] at h
          have := Option.some.inj h
          subst this
          exact ⟨by simp [hx, hy], fun q hq => by omega⟩
        · rw [if_neg hy] at h
          cases hf : tm_h1 (y :: L) with
          | none => rw [hf] at h; cases h
          | some p' =>
            rw [hf] at h
            have hp : p = p' + 1 := (Option.some.inj h).symm
            subst hp
            obtain ⟨h1, h2⟩ := ih p' hf
            refine ⟨by simpa using h1, fun q hq => ?_⟩
            cases q with
            | zero => simp [hx, hy]
            | succ q => simpa using h2 q (by omega)
      · rw [if_neg hx] at h; cases h
theorem tm_h1_none (K : List Int) : tm_h1 K = none → ∀ q : Nat, (∀ r : Nat, r < q → K[r]? = some 2 ∧ ¬ K[r + 1]? = some 1) → ¬ (K[q]? = some 2 ∧ K[q + 1]? = some 1) := by
  induction K with
  | nil => intro _ q; simp
  | cons x K ih =>
    intro h q hr
    cases K with
    | nil => simp
    | cons y L =>
      have h : (if x = 2 then (if y = 1 then some 0 else (tm_h1 (y :: L)).map (· + 1)) else none) = none := h
      by_cases hx : x = 2
      · rw [if_pos hx] at h
        by_cases hy : y = 1
        · rw [if_pos hy] at h; cases h
        · rw [if_neg hy] at h
          cases hf : tm_h1 (y :: L) with
          | some p' => rw [hf] at h; cases h
          | none =>
            cases q with
            | zero => simp [hy]
            | succ q => simpa using ih hf q (fun r hrq => by simpa using hr (r + 1) (by omega))
      · cases q with
        | zero => simp [hx]
        | succ q =>
          have := (hr 0 (by omega)).1
          simp [hx] at this
/-- all STEPS, or those of the HEAD: none where one is beyond, some none where there are too many -/
def tm_rd (hd : Bool) : Nat → Nat → Std.Format → Option (Option (Nat × Std.Format))
  | 0, _, _ => some none
  | f + 1, n, t => match (if hd = true then tm_h1 (tm_ks t) else tm_f1 (tm_ks t)) with
    | none => some (some (n, t))
    | some p => match tm_chk (tm_ct t p) with
      | none => none
      | some u => tm_rd hd f (n + 1) u
