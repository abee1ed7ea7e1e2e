/-! a new bench is well -/
def pm (j : Nat) : Nat := if j = 0 then 0 else if j = 1 then 1 else if j = 2 then 34 else if j = 3 then 45 else if j = 4 then 46 else if j < 11 then j + 34 else if j < 13 then j + 36 else if j < 45 then j - 11 else j - 10
theorem pm_i : ∀ i, i < 49 → ∀ j, j < 49 → pm i = pm j → i = j := by decide +kernel
theorem pm_lt : ∀ i, i < 49 → pm i < 49 := by decide +kernel
def op_new : Nat → Std.Format := fun _ => lfm 0
theorem mk_B.iv {K : Nat → ClassId} {w w' : mp_W} {x : Nat} (hx : w x ≠ none) (h : mk_B K w w' x) : ∃ f, iv_B K w' f 16 op_new 64 [] ∧ f 0 = x ∧ (∀ j, j < 49 → j ≠ 0 → w (f j) = none) ∧ ∀ q v, w q = some v → q ≠ x → w' q = some v := by
  obtain ⟨ra, L, ws, t1, a1, t2, a2, k1, b1, k2, b2, k3, b3, tx, by0, k4, b4, g, hz, h0, h1, ⟨hL, hr⟩, s0, s1, s2, s3, s4, s5, s6, s7, q0, q1, q2⟩ := h
  obtain ⟨R, hR⟩ : ∃ R, [ws, t1, a1, t2, a2, k1, b1, k2, b2, k3, b3, tx, by0, k4, b4] = R := ⟨_, rfl⟩
  have hC : ([ra] ++ L) ++ ([ws] ++ [t1, a1, t2, a2, k1, b1, k2, b2, k3, b3]) ++ ([tx] ++ [by0, k4, b4]) = ra :: (L ++ R) := by rw [← hR]; simp
  rw [hC] at hz
  have hlen : (x :: ra :: (L ++ R)).length = 49 := by rw [← hR]; simp; omega
  have hnx : x ∉ ra :: (L ++ R) := fun hm => hx (hz.2.1 x hm).1
  have hnd : (x :: ra :: (L ++ R)).Nodup := List.nodup_cons.mpr ⟨hnx, hz.1⟩
  obtain ⟨F, hF⟩ : ∃ F : Nat → Nat, F = fun i => ((x :: ra :: (L ++ R))[i]?).getD 0 := ⟨_, rfl⟩
  have hFat : ∀ i v, (x :: ra :: (L ++ R))[i]? = some v → F i = v := fun i v h => by rw [hF]; simp only [h]; rfl
  have hR2 : ∀ k v, R[k]? = some v → F (34 + k) = v := fun k v h => hFat _ _ (by
    rw [show 34 + k = (32 + k) + 1 + 1 by omega, List.getElem?_cons_succ, List.getElem?_cons_succ, List.getElem?_append_right (by omega), hL, show 32 + k - 2 * 16 = k by omega]
    exact h)
  have hL2 : ∀ k v, L[k]? = some v → F (2 + k) = v := fun k v h => hFat _ _ (by
    have hlt := (List.getElem?_eq_some_iff.mp h).1
    rw [show 2 + k = k + 1 + 1 by omega, List.getElem?_cons_succ, List.getElem?_cons_succ, List.getElem?_append_left hlt]
    exact h)
  have f0 : F (pm 0) = x := hFat 0 x rfl
  have f1 : F (pm 1) = ra := hFat 1 ra rfl
  have f2 : F (pm 2) = ws := hR2 0 ws (by rw [← hR]; rfl)
  have f3 : F (pm 3) = tx := hR2 11 tx (by rw [← hR]; rfl)
  have f4 : F (pm 4) = by0 := hR2 12 by0 (by rw [← hR]; rfl)
  have f5 : F (pm 5) = k1 := hR2 5 k1 (by rw [← hR]; rfl)
  have f6 : F (pm 6) = b1 := hR2 6 b1 (by rw [← hR]; rfl)
  have f7 : F (pm 7) = k2 := hR2 7 k2 (by rw [← hR]; rfl)
  have f8 : F (pm 8) = b2 := hR2 8 b2 (by rw [← hR]; rfl)
  have f9 : F (pm 9) = k3 := hR2 9 k3 (by rw [← hR]; rfl)
  have f10 : F (pm 10) = b3 := hR2 10 b3 (by rw [← hR]; rfl)
  have f11 : F (pm 11) = k4 := hR2 13 k4 (by rw [← hR]; rfl)
  have f12 : F (pm 12) = b4 := hR2 14 b4 (by rw [← hR]; rfl)
  have f45 : F (pm 45) = t1 := hR2 1 t1 (by rw [← hR]; rfl)
  have f46 : F (pm 46) = a1 := hR2 2 a1 (by rw [← hR]; rfl)
  have f47 : F (pm 47) = t2 := hR2 3 t2 (by rw [← hR]; rfl)
  have f48 : F (pm 48) = a2 := hR2 4 a2 (by rw [← hR]; rfl)
  have hpm : ∀ k, k < 32 → pm (13 + k) = 2 + k := by decide +kernel
  have hph : ph_i (fun j => F (pm j)) := by
    intro i j hi hj e
    refine pm_i i hi j hj ?_
    have hi2 := pm_lt i hi
    have hj2 := pm_lt j hj
    have g1 := List.getElem?_eq_getElem (l := x :: ra :: (L ++ R)) (i := pm i) (by omega)
    have g2 := List.getElem?_eq_getElem (l := x :: ra :: (L ++ R)) (i := pm j) (by omega)
    have e2 : (x :: ra :: (L ++ R))[pm i] = (x :: ra :: (L ++ R))[pm j] := by
      rw [← hFat _ _ g1, ← hFat _ _ g2]
      exact e
    have hpw := List.pairwise_iff_getElem.mp hnd
    rcases Nat.lt_trichotomy (pm i) (pm j) with hh | hh | hh
    · exact absurd e2 (hpw _ _ (by omega) (by omega) hh)
    · exact hh
    · exact absurd e2.symm (hpw _ _ (by omega) (by omega) hh)
  have hdb : tm_db (lfm 0) [] = [0] := rfl
  have hok : tm_ok (lfm 0) := ⟨Or.inl ⟨by decide, by decide⟩, trivial, by decide, by decide⟩
  refine ⟨fun j => F (pm j), ⟨hph, ?_, ⟨g, ?_, fun i hi => ?_⟩, ⟨Or.inl rfl, ⟨[0], ?_, ?_, ⟨([], 0), ?_⟩, ⟨([], 0), ?_⟩, ([], 0), ?_⟩, ?_⟩, fun i hi => ⟨⟨8, ?_⟩, hok⟩, ?_, ⟨([], 0), ?_⟩, by decide, by decide⟩, f0, fun j hj hj0 => ?_, fun q v hq hn => ?_⟩
  · show w' (F (pm 0)) = some (.inr (4, [.ref (F (pm 1)), .ref (F (pm 2)), .ref (F (pm 3))]))
    rw [f0, f1, f2, f3]; exact h0
  · show w' (F (pm 1)) = _
    rw [f1]; exact h1
  · obtain ⟨t, a, e1, e2, e3, -⟩ := hr i hi
    rw [e3]
    show some t = some (F (pm (13 + 2 * i)))
    rw [hpm _ (by omega), hL2 _ _ e1]
  · show w' (F (pm 2)) = some (.inr (3, [.ref (F (pm 45)), .ref (F (pm 47)), .ref (F (pm 5)), .ref (F (pm 7)), .ref (F (pm 9))]))
    rw [f2, f45, f47, f5, f7, f9]; exact s0
  · show pt_T K w' (F (pm 45)) (F (pm 46)) 2000 [0]
    rw [f45, f46]
    exact ⟨fun _ => 0, s1, s2, fun _ i y hy => by cases i with | zero => simp at hy; subst hy; rfl | succ i => simp at hy⟩
  · show pt_W K w' (F (pm 5)) (F (pm 6)) 1 1 _
    rw [f5, f6]; exact s5
  · show pt_W K w' (F (pm 7)) (F (pm 8)) 0 1 _
    rw [f7, f8]; exact s6
  · show pt_W K w' (F (pm 9)) (F (pm 10)) 0 1 _
    rw [f9, f10]; exact s7
  · show pt_V K w' (F (pm 47)) (F (pm 48)) 2000
    rw [f47, f48]
    exact ⟨1, fun _ => 0, s3, s4, Nat.le_refl _⟩
  · obtain ⟨t, a, e1, e2, e3, e4, e5⟩ := hr i hi
    show pt_R K w' (F (pm (13 + 2 * i))) (F (pm (14 + 2 * i))) 8 [0]
    rw [hpm _ (by omega), show 14 + 2 * i = 13 + (2 * i + 1) by omega, hpm _ (by omega), hL2 _ _ e1, hL2 _ _ e2]
    exact ⟨⟨fun _ => 0, e4, e5, fun _ i y hy => by cases i with | zero => simp at hy; subst hy; rfl | succ i => simp at hy⟩, by decide, by decide, fun y hy => by simp at hy; subst hy; decide⟩
  · show pt_Y K w' (F (pm 3)) (F (pm 4)) (F (pm 11)) 64 []
    rw [f3, f4, f11]
    exact ⟨fun _ => 0, q0, q1, Nat.zero_le _, fun i y hy => by simp at hy, fun _ => rfl⟩
  · show pt_W K w' (F (pm 11)) (F (pm 12)) 1 0 _
    rw [f11, f12]; exact q2
  · show w (F (pm j)) = none
    have hj2 := pm_lt j hj
    have hp0 : pm j ≠ 0 := fun e => hj0 (pm_i j hj 0 (by decide) e)
    have g1 := List.getElem?_eq_getElem (l := x :: ra :: (L ++ R)) (i := pm j) (by omega)
    rw [hFat _ _ g1]
    have hm : (x :: ra :: (L ++ R))[pm j] ∈ ra :: (L ++ R) := by
      obtain ⟨k, hk⟩ : ∃ k, pm j = k + 1 := ⟨pm j - 1, by omega⟩
      simp only [hk, List.getElem_cons_succ]
      exact List.getElem_mem _
    exact (hz.2.1 _ hm).1
  · exact hz.kp q v hq (by simp; exact hn)
