theorem fa_mk {k : Nat} {kd st el ju cc cx cy : Nat → Nat → Nat} {sk sz : Nat → Nat} {w m : Nat} {f_open f_valueCount f_enteredInAll f_tired : Int32} {a_kind a_number a_elsePlace a_jumpPlace a_bodySize a_stack a_openFunction a_openFirst a_openSecond a_openPlace a_values a_entered : Nat → Int32}
    {f_waiting f_held f_called g_tired : Int32} {a_kinds a_parts a_numbers a_roots b_stack a_waits b_values a_firsts a_seconds a_counts : Nat → Int32} (C : fa_C kd st el ju cc cx cy sk sz w m a_kind a_number a_elsePlace a_jumpPlace a_bodySize a_stack a_kinds a_parts a_numbers a_roots b_stack) : i_Rel k (nI w, nI m, f_open, f_valueCount, f_enteredInAll, f_tired, a_kind, a_number, a_elsePlace, a_jumpPlace, a_bodySize, a_stack, a_openFunction, a_openFirst, a_openSecond, a_openPlace, a_values, a_entered) (nI m, nI w, f_waiting, f_held, f_called, g_tired, a_kinds, a_parts, a_numbers, a_roots, b_stack, a_waits, b_values, a_firsts, a_seconds, a_counts) :=
  ⟨kd, st, el, ju, cc, cx, cy, sk, sz, w, m, f_open, f_valueCount, f_enteredInAll, f_tired, a_kind, a_number, a_elsePlace, a_jumpPlace, a_bodySize, a_stack, a_openFunction, a_openFirst, a_openSecond, a_openPlace, a_values, a_entered, f_waiting, f_held, f_called, g_tired, a_kinds, a_parts, a_numbers, a_roots, b_stack, a_waits, b_values, a_firsts, a_seconds, a_counts, rfl, rfl, C⟩
theorem fa_nlt0 {x : Int32} {n : Nat} (h : nI n ≤ x) (hn : n < 2 ^ 31) : ¬ x < 0 := Int32.not_lt.mpr (Int32.le_trans (nI_pos' hn) h)
theorem fa_z1 : (fun _ => 0 : Nat → Int32) = fun _ => nI 0 := rfl
def fa_k0 : Nat → Nat → Nat := fun g p => if p = 0 ∧ g < 4 then 8 else 0
theorem fa_C00 : fa_C fa_k0 (fun _ _ => 0) (fun _ _ => 0) (fun _ _ => 0) (fun _ _ => 0) (fun _ _ => 0) (fun _ _ => 0) (fun _ => 0) (fun _ => 1) 0 0
    (upd (upd (upd (upd (fun _ => 0) 0 8) 14 8) 28 8) 42 8) (fun _ => 0) (fun _ => 0) (fun _ => 0) (upd (upd (upd (upd (fun _ => 0) 0 1) 1 1) 2 1) 3 1) (fun _ => 0)
    (upd (upd (upd (upd (fun _ => 0) 0 9) 14 9) 28 9) 42 9) (fun _ => 0) (fun _ => 0) (upd (upd (upd (upd (fun _ => 0) 0 0) 1 14) 2 28) 3 42) (fun _ => 0) := by
  refine ⟨?_, fun _ _ _ _ => ⟨rfl, (by decide : (0 : Nat) < 99)⟩, fun _ _ _ _ => ⟨rfl, (by decide : (0 : Nat) < 99)⟩, ?_, fun _ h => absurd h (Nat.not_lt_zero _), ?_, fa_D0 _ _ _ _ _ _ _ _, ?_, ?_, fun _ h => absurd h (Nat.not_lt_zero _)⟩
  · have h : ∀ g, g < 5 → ∀ p, p < 14 → upd (upd (upd (upd (fun _ => (0 : Int32)) 0 8) 14 8) 28 8) 42 8 (14 * g + p) = nI (fa_k0 g p) ∧ fa_k0 g p < 99 := by decide +kernel
    exact fun g p hg hp => h g hg p hp
  · decide +kernel
  · intro g hg
    refine ⟨Nat.lt_succ_self 0, (by decide : (1 : Nat) ≤ 14), rfl, rfl, rfl, fun p hp => Or.inl ?_⟩
    have hp1 : p < 1 := hp
    have e : p = 0 := by omega
    subst e
    have e : fa_k0 g 0 = 8 := if_pos ⟨rfl, hg⟩
    rw [e]
    exact ⟨by decide, by decide, rfl⟩
  · intro g hg p hp
    have hp1 : p < 1 := hp
    have e : p = 0 := by omega
    subst e
    have e : fa_k0 g 0 = 8 := if_pos ⟨rfl, hg⟩
    have h : ∀ g, g < 4 → upd (upd (upd (upd (fun _ => (0 : Int32)) 0 9) 14 9) 28 9) 42 9 (14 * g + 0) = nI 9 := by decide +kernel
    unfold yq_R
    rw [e]
    exact ⟨fun _ => ⟨h g hg, rfl⟩, fun h => by omega, fun h => by omega, fun h => by omega, fun h => by omega⟩
  · decide +kernel
theorem i_vc0 : wpX_init (fun u => wpY_init (fun v => i_Rel 0 u v)) := by
  refine ⟨5, ?_⟩
  refine br_f (by decide) ⟨vp_in_iff.mpr (by decide), nm_r (e' := upd (fun _ => 0) 0 8) rfl ⟨vp_in_iff.mpr (by decide), nm_r (e' := upd (fun _ => 0) 0 1) rfl (nm_r (e' := 1) rfl ?_)⟩⟩
  refine br_f (by decide) ⟨vp_in_iff.mpr (by decide), nm_r (e' := upd (upd (fun _ => 0) 0 8) 14 8) rfl ⟨vp_in_iff.mpr (by decide), nm_r (e' := upd (upd (fun _ => 0) 0 1) 1 1) rfl (nm_r (e' := 2) rfl ?_)⟩⟩
  refine br_f (by decide) ⟨vp_in_iff.mpr (by decide), nm_r (e' := upd (upd (upd (fun _ => 0) 0 8) 14 8) 28 8) rfl ⟨vp_in_iff.mpr (by decide), nm_r (e' := upd (upd (upd (fun _ => 0) 0 1) 1 1) 2 1) rfl (nm_r (e' := 3) rfl ?_)⟩⟩
  refine br_f (by decide) ⟨vp_in_iff.mpr (by decide), nm_r (e' := upd (upd (upd (upd (fun _ => 0) 0 8) 14 8) 28 8) 42 8) rfl ⟨vp_in_iff.mpr (by decide), nm_r (e' := upd (upd (upd (upd (fun _ => 0) 0 1) 1 1) 2 1) 3 1) rfl (nm_r (e' := 4) rfl ?_)⟩⟩
  refine br_t (by decide) ?_
  refine ⟨5, ?_⟩
  refine br_f (by decide) ⟨vp_in_iff.mpr (by decide), nm_r (e' := upd (fun _ => 0) 0 0) rfl ⟨vp_in_iff.mpr (by decide), nm_r (e' := upd (fun _ => 0) 0 9) rfl (nm_r (e' := 1) rfl ?_)⟩⟩
  refine br_f (by decide) ⟨vp_in_iff.mpr (by decide), nm_r (e' := upd (upd (fun _ => 0) 0 0) 1 14) rfl ⟨vp_in_iff.mpr (by decide), nm_r (e' := upd (upd (fun _ => 0) 0 9) 14 9) rfl (nm_r (e' := 2) rfl ?_)⟩⟩
  refine br_f (by decide) ⟨vp_in_iff.mpr (by decide), nm_r (e' := upd (upd (upd (fun _ => 0) 0 0) 1 14) 2 28) rfl ⟨vp_in_iff.mpr (by decide), nm_r (e' := upd (upd (upd (fun _ => 0) 0 9) 14 9) 28 9) rfl (nm_r (e' := 3) rfl ?_)⟩⟩
  refine br_f (by decide) ⟨vp_in_iff.mpr (by decide), nm_r (e' := upd (upd (upd (upd (fun _ => 0) 0 0) 1 14) 2 28) 3 42) rfl ⟨vp_in_iff.mpr (by decide), nm_r (e' := upd (upd (upd (upd (fun _ => 0) 0 9) 14 9) 28 9) 42 9) rfl (nm_r (e' := 4) rfl ?_)⟩⟩
  refine br_t (by decide) ?_
  exact fa_mk (w := 0) (m := 0) fa_C00
theorem i_vc_constant {k : Nat} {u : SX} {v : SY} (I : i_Rel k u v) (hk : k + 5 ≤ 2560) (v1 : Int32) : wpX_constant (fun r u' => wpY_constant (fun r' v' => r' = r ∧ i_Rel (k + 5) u' v') v v1) u v1 := by
  obtain ⟨kd, st, el, ju, cc, cx, cy, sk, sz, w, m, f_open, f_valueCount, f_enteredInAll, f_tired, a_kind, a_number, a_elsePlace, a_jumpPlace, a_bodySize, a_stack, a_openFunction, a_openFirst, a_openSecond, a_openPlace, a_values, a_entered, f_waiting, f_held, f_called, g_tired, a_kinds, a_parts, a_numbers, a_roots, b_stack, a_waits, b_values, a_firsts, a_seconds, a_counts, rfl, rfl, C⟩ := I
  have W := fa_Cw C
  by_cases h1 : v1 < -20
  · exact br_t h1 (br_t h1 ⟨rfl, fa_mk C⟩)
  refine br_f h1 ?_
  by_cases h2 : v1 ≤ 20
  · refine br_t h2 ?_
    by_cases hm : m < 14
    · refine br_t (nI_lt (b := 14) hm (by decide)) ?_
      refine xq_pushTerm w m (by omega) hm ?_
      refine br_f h1 (br_t h2 (br_f (fun z => by have := (nI_eq (b := 14) (by omega) (by decide)).mp z; omega) ?_))
      refine yq_note0 w m (by omega) hm ?_
      exact ⟨rfl, fa_mk (fa_Cleaf (kv := 8) C hm (by decide) (by decide) ⟨fun _ => ⟨rfl, rfl⟩, fun h => by omega, fun h => by omega⟩)⟩
    · have e : m = 14 := by omega
      subst e
      exact br_f (nI_nlt (Nat.le_refl 14) (by decide)) (br_f h1 (br_t h2 (br_t rfl ⟨rfl, fa_mk C⟩)))
  · exact br_f h2 (br_f h1 (br_f h2 ⟨rfl, fa_mk C⟩))
theorem i_vc_argument {k : Nat} {u : SX} {v : SY} (I : i_Rel k u v) (hk : k + 5 ≤ 2560) (v1 : Int32) : wpX_argument (fun r u' => wpY_argument (fun r' v' => r' = r ∧ i_Rel (k + 5) u' v') v v1) u v1 := by
  obtain ⟨kd, st, el, ju, cc, cx, cy, sk, sz, w, m, f_open, f_valueCount, f_enteredInAll, f_tired, a_kind, a_number, a_elsePlace, a_jumpPlace, a_bodySize, a_stack, a_openFunction, a_openFirst, a_openSecond, a_openPlace, a_values, a_entered, f_waiting, f_held, f_called, g_tired, a_kinds, a_parts, a_numbers, a_roots, b_stack, a_waits, b_values, a_firsts, a_seconds, a_counts, rfl, rfl, C⟩ := I
  have W := fa_Cw C
  rcases pk_ix v1 (n := 2) (by decide) with h | h | ⟨j, hj, h⟩
  · have n0 : ¬ v1 = 0 := fun z => by rw [z] at h; exact absurd h (by decide)
    have n1 : ¬ v1 = 1 := fun z => by rw [z] at h; exact absurd h (by decide)
    exact br_f n0 (br_f n1 (br_t h ⟨rfl, fa_mk C⟩))
  · have n0 : ¬ v1 = 0 := fun z => by rw [z] at h; exact absurd h (by decide)
    have n1 : ¬ v1 = 1 := fun z => by rw [z] at h; exact absurd h (by decide)
    exact br_f n0 (br_f n1 (br_f (fa_nlt0 h (by decide)) (br_f (Int32.not_le.mpr (Int32.lt_of_lt_of_le (by decide) h)) ⟨rfl, fa_mk C⟩)))
  · by_cases hm : m < 14
    · by_cases e : j = 0
      · subst e
        subst h
        refine br_t rfl ?_
        refine br_t (nI_lt (b := 14) hm (by decide)) (br_t rfl ?_)
        unfold wX_argument_35
        refine xq_pushTerm w m (by omega) hm ?_
        refine br_f (by decide) (br_t (by decide) (br_f (fun z => by have := (nI_eq (b := 14) (by omega) (by decide)).mp z; omega) ?_))
        refine yq_note0 w m (by omega) hm ?_
        exact ⟨rfl, fa_mk (fa_Cleaf (kv := 9) C hm (by decide) (by decide) ⟨fun h => by omega, fun _ => ⟨rfl, rfl⟩, fun h => by omega⟩)⟩
      · have e1 : j = 1 := by omega
        subst e1
        subst h
        refine br_f (by decide) (br_t rfl ?_)
        refine br_t (nI_lt (b := 14) hm (by decide)) (br_f (by decide) ?_)
        unfold wX_argument_35
        refine xq_pushTerm w m (by omega) hm ?_
        refine br_f (by decide) (br_t (by decide) (br_f (fun z => by have := (nI_eq (b := 14) (by omega) (by decide)).mp z; omega) ?_))
        refine yq_note0 w m (by omega) hm ?_
        exact ⟨rfl, fa_mk (fa_Cleaf (kv := 10) C hm (by decide) (by decide) ⟨fun h => by omega, fun h => by omega, fun _ => ⟨rfl, rfl⟩⟩)⟩
    · have e : m = 14 := by omega
      subst e
      have hx : ∀ P : Prop, P → (v1 = 0 → P) ∧ (¬ v1 = 0 → (v1 = 1 → P) ∧ (¬ v1 = 1 → False)) → P := fun P p _ => p
      have hY : ¬ v1 < 0 := by subst h; exact nI_pos (by omega)
      have hY1 : v1 ≤ 1 := by subst h; exact nI_le (b := 1) (by omega) (by decide)
      refine br_c (fun _ => ?_) (fun n0 => br_t ?_ ?_)
      · exact br_f (nI_nlt (Nat.le_refl 14) (by decide)) (br_f hY (br_t hY1 (br_t rfl ⟨rfl, fa_mk C⟩)))
      · have e1 : j = 1 := by
          by_cases e0 : j = 0
          · subst e0; exact absurd h n0
          · omega
        subst e1; exact h
      · exact br_f (nI_nlt (Nat.le_refl 14) (by decide)) (br_f hY (br_t hY1 (br_t rfl ⟨rfl, fa_mk C⟩)))
theorem i_vc_two {k : Nat} {u : SX} {v : SY} (I : i_Rel k u v) (hk : k + 5 ≤ 2560) (v1 : Int32) : wpX_two (fun r u' => wpY_two (fun r' v' => r' = r ∧ i_Rel (k + 5) u' v') v v1) u v1 := by
  obtain ⟨kd, st, el, ju, cc, cx, cy, sk, sz, w, m, f_open, f_valueCount, f_enteredInAll, f_tired, a_kind, a_number, a_elsePlace, a_jumpPlace, a_bodySize, a_stack, a_openFunction, a_openFirst, a_openSecond, a_openPlace, a_values, a_entered, f_waiting, f_held, f_called, g_tired, a_kinds, a_parts, a_numbers, a_roots, b_stack, a_waits, b_values, a_firsts, a_seconds, a_counts, rfl, rfl, C⟩ := I
  have W := fa_Cw C
  rcases pk_ix v1 (n := 8) (by decide) with h | h | ⟨j, hj, h⟩
  · exact br_t h (br_t h ⟨rfl, fa_mk C⟩)
  · have n0 : ¬ v1 < 0 := fa_nlt0 h (by decide)
    have n7 : ¬ v1 ≤ 7 := Int32.not_le.mpr (Int32.lt_of_lt_of_le (by decide) h)
    exact br_f n0 (br_f n7 (br_f n0 (br_f n7 ⟨rfl, fa_mk C⟩)))
  · subst h
    have n0 : ¬ nI j < 0 := nI_pos (by omega)
    have n7 : nI j ≤ 7 := nI_le (b := 7) (by omega) (by decide)
    refine br_f n0 (br_t n7 ?_)
    by_cases hm : m < 14
    · refine br_t (nI_lt (b := 14) hm (by decide)) ?_
      by_cases hw : 2 ≤ w
      · obtain ⟨w', rfl⟩ : ∃ w', w = w' + 2 := ⟨w - 2, by omega⟩
        refine br_t (nI_le (a := 2) (by omega) (by omega)) ?_
        refine nm_r (e' := nI w') (pk_sub (a := w' + 2) (b := 2) (by omega)) ?_
        refine xq_pushTerm w' m (by omega) hm ?_
        refine br_f n0 (br_t n7 (br_f (fun z => by have := (nI_eq (b := 14) (by omega) (by decide)).mp z; omega) (br_t (nI_le (a := 2) (by omega) (by omega)) ?_)))
        refine yq_note2 w' m (by omega) hm ?_
        exact ⟨rfl, fa_mk (fa_Ctwo (kv := j) C hm (by omega))⟩
      · have nw : ¬ (2 : Int32) ≤ nI w := nI_ge (b := 2) (by omega) (by decide)
        exact br_f nw (br_f n0 (br_t n7 (br_f (fun z => by have := (nI_eq (b := 14) (by omega) (by decide)).mp z; omega) (br_f nw ⟨rfl, fa_mk C⟩))))
    · have e : m = 14 := by omega
      subst e
      exact br_f (nI_nlt (Nat.le_refl 14) (by decide)) (br_f n0 (br_t n7 (br_t rfl ⟨rfl, fa_mk C⟩)))
section
variable {f_stacked f_made f_open f_valueCount f_enteredInAll f_tired : Int32} {a_kind a_number a_elsePlace a_jumpPlace a_bodySize a_stack a_openFunction a_openFirst a_openSecond a_openPlace a_values a_entered : Nat → Int32}
theorem xq_putE {post : SX → Prop} {x y y' : Int32} (j : Nat) (hx : x = nI j) (h : j < 70) (hy : y = y') (hp : post (f_stacked, f_made, f_open, f_valueCount, f_enteredInAll, f_tired, a_kind, a_number, upd a_elsePlace j y', a_jumpPlace, a_bodySize, a_stack, a_openFunction, a_openFirst, a_openSecond, a_openPlace, a_values, a_entered)) : wpX_put__elsePlace post (f_stacked, f_made, f_open, f_valueCount, f_enteredInAll, f_tired, a_kind, a_number, a_elsePlace, a_jumpPlace, a_bodySize, a_stack, a_openFunction, a_openFirst, a_openSecond, a_openPlace, a_values, a_entered) x y := by
  subst hy
  exact xq_put_elsePlace j hx h hp
end
theorem i_vc_choose {k : Nat} {u : SX} {v : SY} (I : i_Rel k u v) (hk : k + 5 ≤ 2560) : wpX_choose (fun r u' => wpY_choose (fun r' v' => r' = r ∧ i_Rel (k + 5) u' v') v) u := by
  obtain ⟨kd, st, el, ju, cc, cx, cy, sk, sz, w, m, f_open, f_valueCount, f_enteredInAll, f_tired, a_kind, a_number, a_elsePlace, a_jumpPlace, a_bodySize, a_stack, a_openFunction, a_openFirst, a_openSecond, a_openPlace, a_values, a_entered, f_waiting, f_held, f_called, g_tired, a_kinds, a_parts, a_numbers, a_roots, b_stack, a_waits, b_values, a_firsts, a_seconds, a_counts, rfl, rfl, C⟩ := I
  have W := fa_Cw C
  by_cases hm : m < 14
  · refine br_t (nI_lt (b := 14) hm (by decide)) ?_
    by_cases hw : 3 ≤ w
    · obtain ⟨w', rfl⟩ : ∃ w', w = w' + 3 := ⟨w - 3, by omega⟩
      have D := C.2.2.2.2.2.2.1
      have l0 := (D.2.2.1 w' (by omega)).2.2.1
      have l1 := (D.2.2.1 (w' + 1) (by omega)).2.2.1
      have s0 := (C.2.2.2.2.1 w' (by omega)).1
      have s1 := (C.2.2.2.2.1 (w' + 1) (by omega)).1
      refine br_t (nI_le (a := 3) (by omega) (by omega)) ?_
      refine nm_r (e' := nI w') (pk_sub (a := w' + 3) (b := 3) (by omega)) ?_
      refine xq_at_stack w' rfl (by omega) s0 ?_
      refine xq_at_stack (w' + 1) (nI_1 w') (by omega) s1 ?_
      refine xq_putE (56 + sk w') (nI_add 56 _) (by omega) (nI_1 (sk (w' + 1))) ?_
      refine xq_put_jumpPlace (56 + sk (w' + 1)) (nI_add 56 _) (by omega) ?_
      refine xq_pushTerm w' m (by omega) hm ?_
      refine br_f (fun z => by have := (nI_eq (b := 14) (by omega) (by decide)).mp z; omega) (br_t (nI_le (a := 3) (by omega) (by omega)) ?_)
      refine yq_note3 w' m (by omega) hm ?_
      exact ⟨rfl, fa_mk (fa_Cchoose C hm)⟩
    · have nw : ¬ (3 : Int32) ≤ nI w := nI_ge (b := 3) (by omega) (by decide)
      exact br_f nw (br_f (fun z => by have := (nI_eq (b := 14) (by omega) (by decide)).mp z; omega) (br_f nw ⟨rfl, fa_mk C⟩))
  · have e : m = 14 := by omega
    subst e
    exact br_f (nI_nlt (Nat.le_refl 14) (by decide)) (br_t rfl ⟨rfl, fa_mk C⟩)
theorem i_vc_define {k : Nat} {u : SX} {v : SY} (I : i_Rel k u v) (hk : k + 5 ≤ 2560) (v1 : Int32) : wpX_define (fun r u' => wpY_define (fun r' v' => r' = r ∧ i_Rel (k + 5) u' v') v v1) u v1 := by
  obtain ⟨kd, st, el, ju, cc, cx, cy, sk, sz, w, m, f_open, f_valueCount, f_enteredInAll, f_tired, a_kind, a_number, a_elsePlace, a_jumpPlace, a_bodySize, a_stack, a_openFunction, a_openFirst, a_openSecond, a_openPlace, a_values, a_entered, f_waiting, f_held, f_called, g_tired, a_kinds, a_parts, a_numbers, a_roots, b_stack, a_waits, b_values, a_firsts, a_seconds, a_counts, rfl, rfl, C⟩ := I
  have W := fa_Cw C
  unfold wpX_define
  refine xq_isF (fun h => br_t rfl ?_) (fun f hf e => br_f (by decide) ?_)
  · rcases h with h | h
    · exact br_t h ⟨rfl, fa_mk C⟩
    · exact br_f (fa_nlt0 h (by decide)) (br_f (Int32.not_le.mpr (Int32.lt_of_lt_of_le (by decide) h)) ⟨rfl, fa_mk C⟩)
  · subst e
    have n0 : ¬ nI f < 0 := nI_pos (by omega)
    have n3 : nI f ≤ 3 := nI_le (b := 3) (by omega) (by decide)
    by_cases hw : w = 1
    · subst hw
      refine br_t rfl (xq_cpTo f hf ?_)
      refine br_f n0 (br_t n3 (br_t rfl (nm_e ⟨m + 1, ?_⟩)))
      have s0 := (C.2.2.2.2.1 0 (by omega)).2
      have h := yq_dL (post := fun r' v' => r' = nI m ∧ i_Rel (k + 5) (0, 0, f_open, f_valueCount, f_enteredInAll, f_tired, fa_cp f 14 a_kind, fa_cp f 14 a_number, fa_cp f 14 a_elsePlace, fa_cp f 14 a_jumpPlace, upd a_bodySize f (nI m), a_stack, a_openFunction, a_openFirst, a_openSecond, a_openPlace, a_values, a_entered) v') (f_depth := nI 1) (f_waiting := f_waiting) (f_held := f_held) (f_called := f_called) (f_tired := g_tired) (a_kinds := a_kinds) (a_parts := a_parts) (a_numbers := a_numbers) (a_roots := a_roots) (a_stack := b_stack) (a_waits := a_waits) (a_values := b_values) (a_firsts := a_firsts) (a_seconds := a_seconds) (a_counts := a_counts) f m hf W.2 (sk 0) s0 ⟨rfl, fa_mk (w := 0) (m := 0) (fa_Cdef C hf)⟩ m 0 (by omega)
      rw [fa_cp0, fa_cp0, Nat.mul_zero, fa_cq0] at h
      exact h
    · have nw : ¬ nI w = 1 := fun z => hw ((nI_eq (b := 1) (by omega) (by decide)).mp z)
      exact br_f nw (br_f n0 (br_t n3 (br_f nw ⟨rfl, fa_mk C⟩)))
theorem i_vc_discard {k : Nat} {u : SX} {v : SY} (I : i_Rel k u v) (hk : k + 5 ≤ 2560) : wpX_discard (fun u' => wpY_discard (fun v' => i_Rel (k + 5) u' v') v) u := by
  obtain ⟨kd, st, el, ju, cc, cx, cy, sk, sz, w, m, f_open, f_valueCount, f_enteredInAll, f_tired, a_kind, a_number, a_elsePlace, a_jumpPlace, a_bodySize, a_stack, a_openFunction, a_openFirst, a_openSecond, a_openPlace, a_values, a_entered, f_waiting, f_held, f_called, g_tired, a_kinds, a_parts, a_numbers, a_roots, b_stack, a_waits, b_values, a_firsts, a_seconds, a_counts, rfl, rfl, C⟩ := I
  exact fa_mk (k := k + 5) (w := 0) (m := 0) (fa_C0 C)
theorem i_vc_depth {k : Nat} {u : SX} {v : SY} (I : i_Rel k u v) (hk : k + 5 ≤ 2560) : wpX_depth (fun r => wpY_depth (fun r' => r' = r ∧ i_Rel (k + 5) u v) v) u := by
  obtain ⟨kd, st, el, ju, cc, cx, cy, sk, sz, w, m, f_open, f_valueCount, f_enteredInAll, f_tired, a_kind, a_number, a_elsePlace, a_jumpPlace, a_bodySize, a_stack, a_openFunction, a_openFirst, a_openSecond, a_openPlace, a_values, a_entered, f_waiting, f_held, f_called, g_tired, a_kinds, a_parts, a_numbers, a_roots, b_stack, a_waits, b_values, a_firsts, a_seconds, a_counts, rfl, rfl, C⟩ := I
  exact ⟨rfl, fa_mk C⟩
theorem i_vc_run {k : Nat} {u : SX} {v : SY} (I : i_Rel k u v) (hk : k + 5 ≤ 2560) (v1 : Int32) (v2 : Int32) (v3 : Int32) : wpX_run (fun r u' => wpY_run (fun r' v' => r' = r ∧ i_Rel (k + 5) u' v') v v1 v2 v3) u v1 v2 v3 := by
  obtain ⟨kd, st, el, ju, cc, cx, cy, sk, sz, w, m, f_open, f_valueCount, f_enteredInAll, f_tired, a_kind, a_number, a_elsePlace, a_jumpPlace, a_bodySize, a_stack, a_openFunction, a_openFirst, a_openSecond, a_openPlace, a_values, a_entered, f_waiting, f_held, f_called, g_tired, a_kinds, a_parts, a_numbers, a_roots, b_stack, a_waits, b_values, a_firsts, a_seconds, a_counts, rfl, rfl, C⟩ := I
  obtain ⟨h1, h2, h3, h4, h5, h6, h7, h8, h9, h10⟩ := id C
  rcases pk_ix v1 (n := 4) (by decide) with h | h | ⟨f, hf, h⟩
  · exact xq_nrun (Or.inl h) (yq_nrun (Or.inl h) ⟨rfl, fa_mk C⟩)
  · exact xq_nrun (Or.inr h) (yq_nrun (Or.inr h) ⟨rfl, fa_mk C⟩)
  · subst h
    refine xq_mrun h1 h2 h3 h4 h6 f hf ?_
    intro s0 s1 s2 s3 s4 s5 s6 s7 s8 s9
    refine yq_mrun h8 h9 h6 f hf ?_
    intro t0 t1 t2 t3 t4 t5 t6 t7 t8
    exact ⟨rfl, fa_mk C⟩
theorem i_vc_ending {k : Nat} {u : SX} {v : SY} (I : i_Rel k u v) (hk : k + 5 ≤ 2560) (v1 : Int32) (v2 : Int32) (v3 : Int32) : wpX_ending (fun r u' => wpY_ending (fun r' v' => r' = r ∧ i_Rel (k + 5) u' v') v v1 v2 v3) u v1 v2 v3 := by
  obtain ⟨kd, st, el, ju, cc, cx, cy, sk, sz, w, m, f_open, f_valueCount, f_enteredInAll, f_tired, a_kind, a_number, a_elsePlace, a_jumpPlace, a_bodySize, a_stack, a_openFunction, a_openFirst, a_openSecond, a_openPlace, a_values, a_entered, f_waiting, f_held, f_called, g_tired, a_kinds, a_parts, a_numbers, a_roots, b_stack, a_waits, b_values, a_firsts, a_seconds, a_counts, rfl, rfl, C⟩ := I
  obtain ⟨h1, h2, h3, h4, h5, h6, h7, h8, h9, h10⟩ := id C
  rcases pk_ix v1 (n := 4) (by decide) with h | h | ⟨f, hf, h⟩
  · exact xq_nending (Or.inl h) (yq_nending (Or.inl h) ⟨rfl, fa_mk C⟩)
  · exact xq_nending (Or.inr h) (yq_nending (Or.inr h) ⟨rfl, fa_mk C⟩)
  · subst h
    refine xq_mending h1 h2 h3 h4 h6 f hf ?_
    intro s0 s1 s2 s3 s4 s5 s6 s7 s8 s9
    refine yq_mending h8 h9 h6 f hf ?_
    intro t0 t1 t2 t3 t4 t5 t6 t7 t8
    exact ⟨rfl, fa_mk C⟩
theorem i_vc_calls {k : Nat} {u : SX} {v : SY} (I : i_Rel k u v) (hk : k + 5 ≤ 2560) (v1 : Int32) (v2 : Int32) (v3 : Int32) : wpX_calls (fun r u' => wpY_calls (fun r' v' => r' = r ∧ i_Rel (k + 5) u' v') v v1 v2 v3) u v1 v2 v3 := by
  obtain ⟨kd, st, el, ju, cc, cx, cy, sk, sz, w, m, f_open, f_valueCount, f_enteredInAll, f_tired, a_kind, a_number, a_elsePlace, a_jumpPlace, a_bodySize, a_stack, a_openFunction, a_openFirst, a_openSecond, a_openPlace, a_values, a_entered, f_waiting, f_held, f_called, g_tired, a_kinds, a_parts, a_numbers, a_roots, b_stack, a_waits, b_values, a_firsts, a_seconds, a_counts, rfl, rfl, C⟩ := I
  obtain ⟨h1, h2, h3, h4, h5, h6, h7, h8, h9, h10⟩ := id C
  rcases pk_ix v1 (n := 4) (by decide) with h | h | ⟨f, hf, h⟩
  · exact xq_ncalls (Or.inl h) (yq_ncalls (Or.inl h) ⟨rfl, fa_mk C⟩)
  · exact xq_ncalls (Or.inr h) (yq_ncalls (Or.inr h) ⟨rfl, fa_mk C⟩)
  · subst h
    refine xq_mcalls h1 h2 h3 h4 h6 f hf ?_
    intro s0 s1 s2 s3 s4 s5 s6 s7 s8 s9
    refine yq_mcalls h8 h9 h6 f hf ?_
    intro t0 t1 t2 t3 t4 t5 t6 t7 t8
    exact ⟨rfl, fa_mk C⟩
theorem i_vc_callsOf {k : Nat} {u : SX} {v : SY} (I : i_Rel k u v) (hk : k + 5 ≤ 2560) (v1 : Int32) (v2 : Int32) (v3 : Int32) (v4 : Int32) : wpX_callsOf (fun r u' => wpY_callsOf (fun r' v' => r' = r ∧ i_Rel (k + 5) u' v') v v1 v2 v3 v4) u v1 v2 v3 v4 := by
  obtain ⟨kd, st, el, ju, cc, cx, cy, sk, sz, w, m, f_open, f_valueCount, f_enteredInAll, f_tired, a_kind, a_number, a_elsePlace, a_jumpPlace, a_bodySize, a_stack, a_openFunction, a_openFirst, a_openSecond, a_openPlace, a_values, a_entered, f_waiting, f_held, f_called, g_tired, a_kinds, a_parts, a_numbers, a_roots, b_stack, a_waits, b_values, a_firsts, a_seconds, a_counts, rfl, rfl, C⟩ := I
  obtain ⟨h1, h2, h3, h4, h5, h6, h7, h8, h9, h10⟩ := id C
  rcases pk_ix v1 (n := 4) (by decide) with h | h | ⟨f, hf, h⟩
  · exact xq_ncallsOf (Or.inl (Or.inl h)) (yq_ncallsOf (Or.inl (Or.inl h)) ⟨rfl, fa_mk C⟩)
  · exact xq_ncallsOf (Or.inl (Or.inr h)) (yq_ncallsOf (Or.inl (Or.inr h)) ⟨rfl, fa_mk C⟩)
  · rcases pk_ix v4 (n := 4) (by decide) with h' | h' | ⟨g, hg, h'⟩
    · exact xq_ncallsOf (Or.inr (Or.inl h')) (yq_ncallsOf (Or.inr (Or.inl h')) ⟨rfl, fa_mk C⟩)
    · exact xq_ncallsOf (Or.inr (Or.inr h')) (yq_ncallsOf (Or.inr (Or.inr h')) ⟨rfl, fa_mk C⟩)
    · subst h h'
      refine xq_mcallsOf h1 h2 h3 h4 h6 f hf g hg ?_
      intro s0 s1 s2 s3 s4 s5 s6 s7 s8 s9
      refine yq_mcallsOf h8 h9 h6 f hf g hg ?_
      intro t0 t1 t2 t3 t4 t5 t6 t7 t8
      exact ⟨rfl, fa_mk C⟩
theorem i_vc_sumOver {k : Nat} {u : SX} {v : SY} (I : i_Rel k u v) (hk : k + 5 ≤ 2560) (v1 : Int32) (v2 : Int32) (v3 : Int32) (v4 : Int32) : wpX_sumOver (fun r u' => wpY_sumOver (fun r' v' => r' = r ∧ i_Rel (k + 5) u' v') v v1 v2 v3 v4) u v1 v2 v3 v4 := by
  obtain ⟨kd, st, el, ju, cc, cx, cy, sk, sz, w, m, f_open, f_valueCount, f_enteredInAll, f_tired, a_kind, a_number, a_elsePlace, a_jumpPlace, a_bodySize, a_stack, a_openFunction, a_openFirst, a_openSecond, a_openPlace, a_values, a_entered, f_waiting, f_held, f_called, g_tired, a_kinds, a_parts, a_numbers, a_roots, b_stack, a_waits, b_values, a_firsts, a_seconds, a_counts, rfl, rfl, C⟩ := I
  obtain ⟨h1, h2, h3, h4, h5, h6, h7, h8, h9, h10⟩ := id C
  rcases pk_ix v1 (n := 4) (by decide) with h | h | ⟨f, hf, h⟩
  · exact xq_nsum (Or.inl (Or.inl h)) (yq_nsum (Or.inl (Or.inl h)) ⟨rfl, fa_mk C⟩)
  · exact xq_nsum (Or.inl (Or.inr h)) (yq_nsum (Or.inl (Or.inr h)) ⟨rfl, fa_mk C⟩)
  · rcases pk_ix v4 (n := 9) (by decide) with h' | h' | ⟨g, hg, h'⟩
    · exact xq_nsum (Or.inr (Or.inl h')) (yq_nsum (Or.inr (Or.inl h')) ⟨rfl, fa_mk C⟩)
    · exact xq_nsum (Or.inr (Or.inr h')) (yq_nsum (Or.inr (Or.inr h')) ⟨rfl, fa_mk C⟩)
    · subst h h'
      refine xq_msum h1 h2 h3 h4 h6 f g hf (by omega) ?_
      intro s0 s1 s2 s3 s4 s5 s6 s7 s8 s9
      refine yq_msum h8 h9 h6 f g hf (by omega) ?_
      intro t0 t1 t2 t3 t4 t5 t6 t7 t8
      exact ⟨rfl, fa_mk C⟩
theorem i_vc_solve {k : Nat} {u : SX} {v : SY} (I : i_Rel k u v) (hk : k + 5 ≤ 2560) (v1 : Int32) (v2 : Int32) (v3 : Int32) : wpX_solve (fun r u' => wpY_solve (fun r' v' => r' = r ∧ i_Rel (k + 5) u' v') v v1 v2 v3) u v1 v2 v3 := by
  obtain ⟨kd, st, el, ju, cc, cx, cy, sk, sz, w, m, f_open, f_valueCount, f_enteredInAll, f_tired, a_kind, a_number, a_elsePlace, a_jumpPlace, a_bodySize, a_stack, a_openFunction, a_openFirst, a_openSecond, a_openPlace, a_values, a_entered, f_waiting, f_held, f_called, g_tired, a_kinds, a_parts, a_numbers, a_roots, b_stack, a_waits, b_values, a_firsts, a_seconds, a_counts, rfl, rfl, C⟩ := I
  obtain ⟨h1, h2, h3, h4, h5, h6, h7, h8, h9, h10⟩ := id C
  rcases pk_ix v1 (n := 4) (by decide) with h | h | ⟨f, hf, h⟩
  · exact xq_nsolve (Or.inl h) (yq_nsolve (Or.inl h) ⟨rfl, fa_mk C⟩)
  · exact xq_nsolve (Or.inr h) (yq_nsolve (Or.inr h) ⟨rfl, fa_mk C⟩)
  · subst h
    refine xq_msolve h1 h2 h3 h4 h6 f hf ?_
    intro s0 s1 s2 s3 s4 s5 s6 s7 s8 s9
    refine yq_msolve h8 h9 h6 f hf ?_
    intro t0 t1 t2 t3 t4 t5 t6 t7 t8
    exact ⟨rfl, fa_mk C⟩
