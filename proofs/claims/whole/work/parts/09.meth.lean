def fa_sum (h : Nat → Int32) : Nat → Int32
  | 0 => 0
  | i + 1 => fa_sum h i + h i
def fa_slv (r : Nat → Option Int32 × Nat × (Nat → Int32)) (v : Int32) : Nat → Nat → Int32
  | 0, _ => -1
  | d + 1, i => if fa_td (r i) = 0 then (if fa_val (r i) = v then nI i else fa_slv r v d (i + 1)) else fa_slv r v d (i + 1)
theorem fa_td01 (r : Option Int32 × Nat × (Nat → Int32)) : fa_td r = 0 ∨ fa_td r = 1 := by
  rcases r with ⟨_ | v, n, c⟩
  · exact Or.inr rfl
  · exact Or.inl rfl
theorem fa_nf {f : Nat} (hf : f < 4) : ¬ (nI f < 0 ∨ nI 4 ≤ nI f) := by
  rintro (h | h)
  · exact nI_pos (by omega) h
  · exact nI_ge hf (by decide) h
/-- whatever a run left behind -/
def xq_A (post : Int32 → SX → Prop) (f_stacked f_made : Int32) (a_kind a_number a_elsePlace a_jumpPlace a_bodySize a_stack : Nat → Int32) (r : Int32) : Prop :=
  ∀ (f_open f_valueCount f_enteredInAll f_tired : Int32) (a_openFunction a_openFirst a_openSecond a_openPlace a_values a_entered : Nat → Int32), post r (f_stacked, f_made, f_open, f_valueCount, f_enteredInAll, f_tired, a_kind, a_number, a_elsePlace, a_jumpPlace, a_bodySize, a_stack, a_openFunction, a_openFirst, a_openSecond, a_openPlace, a_values, a_entered)
def yq_A (post : Int32 → SY → Prop) (f_made f_depth : Int32) (a_kinds a_parts a_numbers a_roots a_stack : Nat → Int32) (r : Int32) : Prop :=
  ∀ (f_waiting f_held f_called f_tired : Int32) (a_waits a_values a_firsts a_seconds a_counts : Nat → Int32), post r (f_made, f_depth, f_waiting, f_held, f_called, f_tired, a_kinds, a_parts, a_numbers, a_roots, a_stack, a_waits, a_values, a_firsts, a_seconds, a_counts)
section
variable {f_stacked f_made f_open f_valueCount f_enteredInAll f_tired : Int32} {a_kind a_number a_elsePlace a_jumpPlace a_bodySize a_stack a_openFunction a_openFirst a_openSecond a_openPlace a_values a_entered : Nat → Int32} {post : Int32 → SX → Prop} {kd el ju st cc cx cy : Nat → Nat → Nat} {sz : Nat → Nat}
theorem xq_nrun {x a b : Int32} (hx : x < 0 ∨ nI 4 ≤ x) (H : post 0 (f_stacked, f_made, f_open, f_valueCount, f_enteredInAll, f_tired, a_kind, a_number, a_elsePlace, a_jumpPlace, a_bodySize, a_stack, a_openFunction, a_openFirst, a_openSecond, a_openPlace, a_values, a_entered)) : wpX_run post (f_stacked, f_made, f_open, f_valueCount, f_enteredInAll, f_tired, a_kind, a_number, a_elsePlace, a_jumpPlace, a_bodySize, a_stack, a_openFunction, a_openFirst, a_openSecond, a_openPlace, a_values, a_entered) x a b := by
  unfold wpX_run
  exact xq_isF (fun _ => br_t rfl H) (fun f hf e => absurd (e ▸ hx) (fa_nf hf))
theorem xq_nending {x a b : Int32} (hx : x < 0 ∨ nI 4 ≤ x) (H : post (-1) (f_stacked, f_made, f_open, f_valueCount, f_enteredInAll, f_tired, a_kind, a_number, a_elsePlace, a_jumpPlace, a_bodySize, a_stack, a_openFunction, a_openFirst, a_openSecond, a_openPlace, a_values, a_entered)) : wpX_ending post (f_stacked, f_made, f_open, f_valueCount, f_enteredInAll, f_tired, a_kind, a_number, a_elsePlace, a_jumpPlace, a_bodySize, a_stack, a_openFunction, a_openFirst, a_openSecond, a_openPlace, a_values, a_entered) x a b := by
  unfold wpX_ending
  exact xq_isF (fun _ => br_t rfl H) (fun f hf e => absurd (e ▸ hx) (fa_nf hf))
theorem xq_ncalls {x a b : Int32} (hx : x < 0 ∨ nI 4 ≤ x) (H : post (-1) (f_stacked, f_made, f_open, f_valueCount, f_enteredInAll, f_tired, a_kind, a_number, a_elsePlace, a_jumpPlace, a_bodySize, a_stack, a_openFunction, a_openFirst, a_openSecond, a_openPlace, a_values, a_entered)) : wpX_calls post (f_stacked, f_made, f_open, f_valueCount, f_enteredInAll, f_tired, a_kind, a_number, a_elsePlace, a_jumpPlace, a_bodySize, a_stack, a_openFunction, a_openFirst, a_openSecond, a_openPlace, a_values, a_entered) x a b := by
  unfold wpX_calls
  exact xq_isF (fun _ => br_t rfl H) (fun f hf e => absurd (e ▸ hx) (fa_nf hf))
theorem xq_mrun (hK : xq_R a_kind kd) (hE : xq_R a_elsePlace el) (hJ : xq_R a_jumpPlace ju) (hz : ∀ g, g < 4 → a_bodySize g = nI (sz g) ∧ sz g ≤ 14) (hW : ∀ g, g < 4 → fa_Bd (kd g) (st g) (el g) (ju g) (cc g) (cx g) (cy g) (sz g)) {a b : Int32} (f : Nat) (hf : f < 4) (H : xq_A post f_stacked f_made a_kind a_number a_elsePlace a_jumpPlace a_bodySize a_stack (fa_val (fa_res kd cc cx cy sz a_number f a b))) : wpX_run post (f_stacked, f_made, f_open, f_valueCount, f_enteredInAll, f_tired, a_kind, a_number, a_elsePlace, a_jumpPlace, a_bodySize, a_stack, a_openFunction, a_openFirst, a_openSecond, a_openPlace, a_values, a_entered) (nI f) a b := by
  unfold wpX_run
  refine xq_isF (fun h => absurd h (fa_nf hf)) (fun _ _ _ => br_f (by decide) ?_)
  refine xq_work hK hE hJ hz hW f hf a b ?_
  intro f_open' f_valueCount' oF oA oB oP V' E' hc
  exact H _ _ _ _ _ _ _ _ _ _
theorem xq_mending (hK : xq_R a_kind kd) (hE : xq_R a_elsePlace el) (hJ : xq_R a_jumpPlace ju) (hz : ∀ g, g < 4 → a_bodySize g = nI (sz g) ∧ sz g ≤ 14) (hW : ∀ g, g < 4 → fa_Bd (kd g) (st g) (el g) (ju g) (cc g) (cx g) (cy g) (sz g)) {a b : Int32} (f : Nat) (hf : f < 4) (H : xq_A post f_stacked f_made a_kind a_number a_elsePlace a_jumpPlace a_bodySize a_stack (fa_td (fa_res kd cc cx cy sz a_number f a b))) : wpX_ending post (f_stacked, f_made, f_open, f_valueCount, f_enteredInAll, f_tired, a_kind, a_number, a_elsePlace, a_jumpPlace, a_bodySize, a_stack, a_openFunction, a_openFirst, a_openSecond, a_openPlace, a_values, a_entered) (nI f) a b := by
  unfold wpX_ending
  refine xq_isF (fun h => absurd h (fa_nf hf)) (fun _ _ _ => br_f (by decide) ?_)
  refine xq_work hK hE hJ hz hW f hf a b ?_
  intro f_open' f_valueCount' oF oA oB oP V' E' hc
  rcases fa_td01 (fa_res kd cc cx cy sz a_number f a b) with e | e
  · rw [e] at H
    exact br_t e (H _ _ _ _ _ _ _ _ _ _)
  · rw [e] at H
    exact br_f (by rw [e]; decide) (H _ _ _ _ _ _ _ _ _ _)
theorem xq_mcalls (hK : xq_R a_kind kd) (hE : xq_R a_elsePlace el) (hJ : xq_R a_jumpPlace ju) (hz : ∀ g, g < 4 → a_bodySize g = nI (sz g) ∧ sz g ≤ 14) (hW : ∀ g, g < 4 → fa_Bd (kd g) (st g) (el g) (ju g) (cc g) (cx g) (cy g) (sz g)) {a b : Int32} (f : Nat) (hf : f < 4) (H : xq_A post f_stacked f_made a_kind a_number a_elsePlace a_jumpPlace a_bodySize a_stack (nI (fa_res kd cc cx cy sz a_number f a b).2.1)) : wpX_calls post (f_stacked, f_made, f_open, f_valueCount, f_enteredInAll, f_tired, a_kind, a_number, a_elsePlace, a_jumpPlace, a_bodySize, a_stack, a_openFunction, a_openFirst, a_openSecond, a_openPlace, a_values, a_entered) (nI f) a b := by
  unfold wpX_calls
  refine xq_isF (fun h => absurd h (fa_nf hf)) (fun _ _ _ => br_f (by decide) ?_)
  refine xq_work hK hE hJ hz hW f hf a b ?_
  intro f_open' f_valueCount' oF oA oB oP V' E' hc
  exact H _ _ _ _ _ _ _ _ _ _
theorem xq_ncallsOf {x a b y : Int32} (hx : (x < 0 ∨ nI 4 ≤ x) ∨ (y < 0 ∨ nI 4 ≤ y)) (H : post (-1) (f_stacked, f_made, f_open, f_valueCount, f_enteredInAll, f_tired, a_kind, a_number, a_elsePlace, a_jumpPlace, a_bodySize, a_stack, a_openFunction, a_openFirst, a_openSecond, a_openPlace, a_values, a_entered)) : wpX_callsOf post (f_stacked, f_made, f_open, f_valueCount, f_enteredInAll, f_tired, a_kind, a_number, a_elsePlace, a_jumpPlace, a_bodySize, a_stack, a_openFunction, a_openFirst, a_openSecond, a_openPlace, a_values, a_entered) x a b y := by
  unfold wpX_callsOf
  refine xq_isF (fun _ => br_t rfl H) (fun f hf e => br_f (by decide) ?_)
  refine xq_isF (fun _ => br_t rfl H) (fun g hg e2 => ?_)
  rcases hx with h | h
  · exact absurd (e ▸ h) (fa_nf hf)
  · exact absurd (e2 ▸ h) (fa_nf hg)
theorem xq_mcallsOf (hK : xq_R a_kind kd) (hE : xq_R a_elsePlace el) (hJ : xq_R a_jumpPlace ju) (hz : ∀ g, g < 4 → a_bodySize g = nI (sz g) ∧ sz g ≤ 14) (hW : ∀ g, g < 4 → fa_Bd (kd g) (st g) (el g) (ju g) (cc g) (cx g) (cy g) (sz g)) {a b : Int32} (f : Nat) (hf : f < 4) (g : Nat) (hg : g < 4) (H : xq_A post f_stacked f_made a_kind a_number a_elsePlace a_jumpPlace a_bodySize a_stack ((fa_res kd cc cx cy sz a_number f a b).2.2 g)) : wpX_callsOf post (f_stacked, f_made, f_open, f_valueCount, f_enteredInAll, f_tired, a_kind, a_number, a_elsePlace, a_jumpPlace, a_bodySize, a_stack, a_openFunction, a_openFirst, a_openSecond, a_openPlace, a_values, a_entered) (nI f) a b (nI g) := by
  unfold wpX_callsOf
  refine xq_isF (fun h => absurd h (fa_nf hf)) (fun _ _ _ => br_f (by decide) ?_)
  refine xq_isF (fun h => absurd h (fa_nf hg)) (fun _ _ _ => br_f (by decide) ?_)
  refine xq_work hK hE hJ hz hW f hf a b ?_
  intro f_open' f_valueCount' oF oA oB oP V' E' hc
  refine xq_at_entered g rfl hg (hc g hg) ?_
  exact H _ _ _ _ _ _ _ _ _ _
theorem xq_sumL (hK : xq_R a_kind kd) (hE : xq_R a_elsePlace el) (hJ : xq_R a_jumpPlace ju) (hz : ∀ g, g < 4 → a_bodySize g = nI (sz g) ∧ sz g ≤ 14) (hW : ∀ g, g < 4 → fa_Bd (kd g) (st g) (el g) (ju g) (cc g) (cx g) (cy g) (sz g)) {a b : Int32} (f n : Nat) (hf : f < 4) (hn : n ≤ 8) (H : xq_A post f_stacked f_made a_kind a_number a_elsePlace a_jumpPlace a_bodySize a_stack (fa_sum (fun j => fa_val (fa_res kd cc cx cy sz a_number f a (b + nI j))) n)) :
    ∀ d i : Nat, i + d = n → ∀ (f_open f_valueCount f_enteredInAll f_tired : Int32) (a_openFunction a_openFirst a_openSecond a_openPlace a_values a_entered : Nat → Int32), wX_sumOver_28 post (nI f) a b (nI n) (d + 1) (fa_sum (fun j => fa_val (fa_res kd cc cx cy sz a_number f a (b + nI j))) i) (nI i) f_stacked f_made f_open f_valueCount f_enteredInAll f_tired a_kind a_number a_elsePlace a_jumpPlace a_bodySize a_stack a_openFunction a_openFirst a_openSecond a_openPlace a_values a_entered := by
  intro d
  induction d with
  | zero =>
    intro i hi f_open f_valueCount f_enteredInAll f_tired a_openFunction a_openFirst a_openSecond a_openPlace a_values a_entered
    have e : i = n := by omega
    subst e
    exact br_t (Int32.le_refl _) (H _ _ _ _ _ _ _ _ _ _)
  | succ d ih =>
    intro i hi f_open f_valueCount f_enteredInAll f_tired a_openFunction a_openFirst a_openSecond a_openPlace a_values a_entered
    refine br_f (nI_ge (by omega) (by omega)) ?_
    refine xq_work hK hE hJ hz hW f hf a (b + nI i) ?_
    intro f_open' f_valueCount' oF oA oB oP V' E' hc
    refine nm_r (e' := fa_sum (fun j => fa_val (fa_res kd cc cx cy sz a_number f a (b + nI j))) (i + 1)) rfl ?_
    exact nm_r (nI_1 i) (ih (i + 1) (by omega) _ _ _ _ _ _ _ _ _ _)
theorem xq_msum (hK : xq_R a_kind kd) (hE : xq_R a_elsePlace el) (hJ : xq_R a_jumpPlace ju) (hz : ∀ g, g < 4 → a_bodySize g = nI (sz g) ∧ sz g ≤ 14) (hW : ∀ g, g < 4 → fa_Bd (kd g) (st g) (el g) (ju g) (cc g) (cx g) (cy g) (sz g)) {a b : Int32} (f n : Nat) (hf : f < 4) (hn : n ≤ 8) (H : xq_A post f_stacked f_made a_kind a_number a_elsePlace a_jumpPlace a_bodySize a_stack (fa_sum (fun j => fa_val (fa_res kd cc cx cy sz a_number f a (b + nI j))) n)) : wpX_sumOver post (f_stacked, f_made, f_open, f_valueCount, f_enteredInAll, f_tired, a_kind, a_number, a_elsePlace, a_jumpPlace, a_bodySize, a_stack, a_openFunction, a_openFirst, a_openSecond, a_openPlace, a_values, a_entered) (nI f) a b (nI n) := by
  unfold wpX_sumOver
  refine xq_isF (fun h => absurd h (fa_nf hf)) (fun _ _ _ => br_f (by decide) ?_)
  refine br_f (nI_pos (by omega)) ?_
  refine br_t (nI_le (b := 8) hn (by decide)) ?_
  exact ⟨n + 1, xq_sumL hK hE hJ hz hW f n hf hn H n 0 (by omega) _ _ _ _ _ _ _ _ _ _⟩
theorem xq_nsum {x a b y : Int32} (hx : (x < 0 ∨ nI 4 ≤ x) ∨ (y < 0 ∨ nI 9 ≤ y)) (H : post 0 (f_stacked, f_made, f_open, f_valueCount, f_enteredInAll, f_tired, a_kind, a_number, a_elsePlace, a_jumpPlace, a_bodySize, a_stack, a_openFunction, a_openFirst, a_openSecond, a_openPlace, a_values, a_entered)) : wpX_sumOver post (f_stacked, f_made, f_open, f_valueCount, f_enteredInAll, f_tired, a_kind, a_number, a_elsePlace, a_jumpPlace, a_bodySize, a_stack, a_openFunction, a_openFirst, a_openSecond, a_openPlace, a_values, a_entered) x a b y := by
  unfold wpX_sumOver
  refine xq_isF (fun _ => br_t rfl H) (fun f hf e => br_f (by decide) ?_)
  rcases hx with h | h | h
  · exact absurd (e ▸ h) (fa_nf hf)
  · exact br_t h H
  · refine br_c (fun _ => H) (fun _ => ?_)
    exact br_f (Int32.not_le.mpr (Int32.lt_of_lt_of_le (by decide) h)) H
theorem xq_slvL (hK : xq_R a_kind kd) (hE : xq_R a_elsePlace el) (hJ : xq_R a_jumpPlace ju) (hz : ∀ g, g < 4 → a_bodySize g = nI (sz g) ∧ sz g ≤ 14) (hW : ∀ g, g < 4 → fa_Bd (kd g) (st g) (el g) (ju g) (cc g) (cx g) (cy g) (sz g)) {a v : Int32} (f : Nat) (hf : f < 4) :
    ∀ d i : Nat, i + d = 16 → xq_A post f_stacked f_made a_kind a_number a_elsePlace a_jumpPlace a_bodySize a_stack (fa_slv (fun j => fa_res kd cc cx cy sz a_number f a (nI j)) v d i) → ∀ (f_open f_valueCount f_enteredInAll f_tired : Int32) (a_openFunction a_openFirst a_openSecond a_openPlace a_values a_entered : Nat → Int32), wX_solve_13 post (nI f) a v (d + 1) (nI i) f_stacked f_made f_open f_valueCount f_enteredInAll f_tired a_kind a_number a_elsePlace a_jumpPlace a_bodySize a_stack a_openFunction a_openFirst a_openSecond a_openPlace a_values a_entered := by
  intro d
  induction d with
  | zero =>
    intro i hi H f_open f_valueCount f_enteredInAll f_tired a_openFunction a_openFirst a_openSecond a_openPlace a_values a_entered
    have e : i = 16 := by omega
    subst e
    exact br_t (nI_lt (a := 15) (b := 16) (by decide) (by decide)) (H _ _ _ _ _ _ _ _ _ _)
  | succ d ih =>
    intro i hi H f_open f_valueCount f_enteredInAll f_tired a_openFunction a_openFirst a_openSecond a_openPlace a_values a_entered
    unfold fa_slv at H
    refine br_f (nI_nlt (a := 15) (by omega) (by decide)) ?_
    refine xq_work hK hE hJ hz hW f hf a (nI i) ?_
    intro f_open' f_valueCount' oF oA oB oP V' E' hc
    by_cases e : fa_td (fa_res kd cc cx cy sz a_number f a (nI i)) = 0
    · rw [if_pos e] at H
      refine br_t e ?_
      by_cases e2 : fa_val (fa_res kd cc cx cy sz a_number f a (nI i)) = v
      · rw [if_pos e2] at H
        exact br_t e2 (H _ _ _ _ _ _ _ _ _ _)
      · rw [if_neg e2] at H
        exact br_f e2 (nm_r (nI_1 i) (ih (i + 1) (by omega) H _ _ _ _ _ _ _ _ _ _))
    · rw [if_neg e] at H
      exact br_f e (nm_r (nI_1 i) (ih (i + 1) (by omega) H _ _ _ _ _ _ _ _ _ _))
theorem xq_msolve (hK : xq_R a_kind kd) (hE : xq_R a_elsePlace el) (hJ : xq_R a_jumpPlace ju) (hz : ∀ g, g < 4 → a_bodySize g = nI (sz g) ∧ sz g ≤ 14) (hW : ∀ g, g < 4 → fa_Bd (kd g) (st g) (el g) (ju g) (cc g) (cx g) (cy g) (sz g)) {a v : Int32} (f : Nat) (hf : f < 4) (H : xq_A post f_stacked f_made a_kind a_number a_elsePlace a_jumpPlace a_bodySize a_stack (fa_slv (fun j => fa_res kd cc cx cy sz a_number f a (nI j)) v 16 0)) : wpX_solve post (f_stacked, f_made, f_open, f_valueCount, f_enteredInAll, f_tired, a_kind, a_number, a_elsePlace, a_jumpPlace, a_bodySize, a_stack, a_openFunction, a_openFirst, a_openSecond, a_openPlace, a_values, a_entered) (nI f) a v := by
  unfold wpX_solve
  refine xq_isF (fun h => absurd h (fa_nf hf)) (fun _ _ _ => br_f (by decide) ?_)
  exact ⟨17, xq_slvL hK hE hJ hz hW f hf 16 0 rfl H _ _ _ _ _ _ _ _ _ _⟩
theorem xq_nsolve {x a v : Int32} (hx : x < 0 ∨ nI 4 ≤ x) (H : post (-1) (f_stacked, f_made, f_open, f_valueCount, f_enteredInAll, f_tired, a_kind, a_number, a_elsePlace, a_jumpPlace, a_bodySize, a_stack, a_openFunction, a_openFirst, a_openSecond, a_openPlace, a_values, a_entered)) : wpX_solve post (f_stacked, f_made, f_open, f_valueCount, f_enteredInAll, f_tired, a_kind, a_number, a_elsePlace, a_jumpPlace, a_bodySize, a_stack, a_openFunction, a_openFirst, a_openSecond, a_openPlace, a_values, a_entered) x a v := by
  unfold wpX_solve
  exact xq_isF (fun _ => br_t rfl H) (fun f hf e => absurd (e ▸ hx) (fa_nf hf))
end
section
variable {f_made f_depth f_waiting f_held f_called f_tired : Int32} {a_kinds a_parts a_numbers a_roots a_stack a_waits a_values a_firsts a_seconds a_counts : Nat → Int32} {num : Nat → Int32} {post : Int32 → SY → Prop} {kd el ju st cc cx cy : Nat → Nat → Nat} {sz : Nat → Nat}
theorem yq_nrun {x a b : Int32} (hx : x < 0 ∨ nI 4 ≤ x) (H : post 0 (f_made, f_depth, f_waiting, f_held, f_called, f_tired, a_kinds, a_parts, a_numbers, a_roots, a_stack, a_waits, a_values, a_firsts, a_seconds, a_counts)) : wpY_run post (f_made, f_depth, f_waiting, f_held, f_called, f_tired, a_kinds, a_parts, a_numbers, a_roots, a_stack, a_waits, a_values, a_firsts, a_seconds, a_counts) x a b := by
  unfold wpY_run
  exact yq_isF (fun _ => br_t rfl H) (fun f hf e => absurd (e ▸ hx) (fa_nf hf))
theorem yq_nending {x a b : Int32} (hx : x < 0 ∨ nI 4 ≤ x) (H : post (-1) (f_made, f_depth, f_waiting, f_held, f_called, f_tired, a_kinds, a_parts, a_numbers, a_roots, a_stack, a_waits, a_values, a_firsts, a_seconds, a_counts)) : wpY_ending post (f_made, f_depth, f_waiting, f_held, f_called, f_tired, a_kinds, a_parts, a_numbers, a_roots, a_stack, a_waits, a_values, a_firsts, a_seconds, a_counts) x a b := by
  unfold wpY_ending
  exact yq_isF (fun _ => br_t rfl H) (fun f hf e => absurd (e ▸ hx) (fa_nf hf))
theorem yq_ncalls {x a b : Int32} (hx : x < 0 ∨ nI 4 ≤ x) (H : post (-1) (f_made, f_depth, f_waiting, f_held, f_called, f_tired, a_kinds, a_parts, a_numbers, a_roots, a_stack, a_waits, a_values, a_firsts, a_seconds, a_counts)) : wpY_calls post (f_made, f_depth, f_waiting, f_held, f_called, f_tired, a_kinds, a_parts, a_numbers, a_roots, a_stack, a_waits, a_values, a_firsts, a_seconds, a_counts) x a b := by
  unfold wpY_calls
  exact yq_isF (fun _ => br_t rfl H) (fun f hf e => absurd (e ▸ hx) (fa_nf hf))
theorem yq_mrun (hR : ∀ g, g < 4 → ∀ p, p < sz g → yq_R a_kinds a_parts a_numbers num g (kd g) (cc g) (cx g) (cy g) p) (hz : ∀ g, g < 4 → sz g ≤ 14 ∧ a_roots g = nI (14 * g + (sz g - 1))) (hW : ∀ g, g < 4 → fa_Bd (kd g) (st g) (el g) (ju g) (cc g) (cx g) (cy g) (sz g)) {a b : Int32} (f : Nat) (hf : f < 4) (H : yq_A post f_made f_depth a_kinds a_parts a_numbers a_roots a_stack (fa_val (fa_res kd cc cx cy sz num f a b))) : wpY_run post (f_made, f_depth, f_waiting, f_held, f_called, f_tired, a_kinds, a_parts, a_numbers, a_roots, a_stack, a_waits, a_values, a_firsts, a_seconds, a_counts) (nI f) a b := by
  unfold wpY_run
  refine yq_isF (fun h => absurd h (fa_nf hf)) (fun _ _ _ => br_f (by decide) ?_)
  refine yq_work hR hz hW f hf a b ?_
  intro f_waiting' f_held' W' V' A' B' E' hc
  exact H _ _ _ _ _ _ _ _ _
theorem yq_mending (hR : ∀ g, g < 4 → ∀ p, p < sz g → yq_R a_kinds a_parts a_numbers num g (kd g) (cc g) (cx g) (cy g) p) (hz : ∀ g, g < 4 → sz g ≤ 14 ∧ a_roots g = nI (14 * g + (sz g - 1))) (hW : ∀ g, g < 4 → fa_Bd (kd g) (st g) (el g) (ju g) (cc g) (cx g) (cy g) (sz g)) {a b : Int32} (f : Nat) (hf : f < 4) (H : yq_A post f_made f_depth a_kinds a_parts a_numbers a_roots a_stack (fa_td (fa_res kd cc cx cy sz num f a b))) : wpY_ending post (f_made, f_depth, f_waiting, f_held, f_called, f_tired, a_kinds, a_parts, a_numbers, a_roots, a_stack, a_waits, a_values, a_firsts, a_seconds, a_counts) (nI f) a b := by
  unfold wpY_ending
  refine yq_isF (fun h => absurd h (fa_nf hf)) (fun _ _ _ => br_f (by decide) ?_)
  refine yq_work hR hz hW f hf a b ?_
  intro f_waiting' f_held' W' V' A' B' E' hc
  rcases fa_td01 (fa_res kd cc cx cy sz num f a b) with e | e
  · rw [e] at H
    exact br_t e (H _ _ _ _ _ _ _ _ _)
  · rw [e] at H
    exact br_f (by rw [e]; decide) (H _ _ _ _ _ _ _ _ _)
theorem yq_mcalls (hR : ∀ g, g < 4 → ∀ p, p < sz g → yq_R a_kinds a_parts a_numbers num g (kd g) (cc g) (cx g) (cy g) p) (hz : ∀ g, g < 4 → sz g ≤ 14 ∧ a_roots g = nI (14 * g + (sz g - 1))) (hW : ∀ g, g < 4 → fa_Bd (kd g) (st g) (el g) (ju g) (cc g) (cx g) (cy g) (sz g)) {a b : Int32} (f : Nat) (hf : f < 4) (H : yq_A post f_made f_depth a_kinds a_parts a_numbers a_roots a_stack (nI (fa_res kd cc cx cy sz num f a b).2.1)) : wpY_calls post (f_made, f_depth, f_waiting, f_held, f_called, f_tired, a_kinds, a_parts, a_numbers, a_roots, a_stack, a_waits, a_values, a_firsts, a_seconds, a_counts) (nI f) a b := by
  unfold wpY_calls
  refine yq_isF (fun h => absurd h (fa_nf hf)) (fun _ _ _ => br_f (by decide) ?_)
  refine yq_work hR hz hW f hf a b ?_
  intro f_waiting' f_held' W' V' A' B' E' hc
  exact H _ _ _ _ _ _ _ _ _
theorem yq_ncallsOf {x a b y : Int32} (hx : (x < 0 ∨ nI 4 ≤ x) ∨ (y < 0 ∨ nI 4 ≤ y)) (H : post (-1) (f_made, f_depth, f_waiting, f_held, f_called, f_tired, a_kinds, a_parts, a_numbers, a_roots, a_stack, a_waits, a_values, a_firsts, a_seconds, a_counts)) : wpY_callsOf post (f_made, f_depth, f_waiting, f_held, f_called, f_tired, a_kinds, a_parts, a_numbers, a_roots, a_stack, a_waits, a_values, a_firsts, a_seconds, a_counts) x a b y := by
  unfold wpY_callsOf
  refine yq_isF (fun _ => br_t rfl H) (fun f hf e => br_f (by decide) ?_)
  refine yq_isF (fun _ => br_t rfl H) (fun g hg e2 => ?_)
  rcases hx with h | h
  · exact absurd (e ▸ h) (fa_nf hf)
  · exact absurd (e2 ▸ h) (fa_nf hg)
theorem yq_mcallsOf (hR : ∀ g, g < 4 → ∀ p, p < sz g → yq_R a_kinds a_parts a_numbers num g (kd g) (cc g) (cx g) (cy g) p) (hz : ∀ g, g < 4 → sz g ≤ 14 ∧ a_roots g = nI (14 * g + (sz g - 1))) (hW : ∀ g, g < 4 → fa_Bd (kd g) (st g) (el g) (ju g) (cc g) (cx g) (cy g) (sz g)) {a b : Int32} (f : Nat) (hf : f < 4) (g : Nat) (hg : g < 4) (H : yq_A post f_made f_depth a_kinds a_parts a_numbers a_roots a_stack ((fa_res kd cc cx cy sz num f a b).2.2 g)) : wpY_callsOf post (f_made, f_depth, f_waiting, f_held, f_called, f_tired, a_kinds, a_parts, a_numbers, a_roots, a_stack, a_waits, a_values, a_firsts, a_seconds, a_counts) (nI f) a b (nI g) := by
  unfold wpY_callsOf
  refine yq_isF (fun h => absurd h (fa_nf hf)) (fun _ _ _ => br_f (by decide) ?_)
  refine yq_isF (fun h => absurd h (fa_nf hg)) (fun _ _ _ => br_f (by decide) ?_)
  refine yq_work hR hz hW f hf a b ?_
  intro f_waiting' f_held' W' V' A' B' E' hc
  refine ⟨vp_in_nI hg (by decide), ?_⟩
  rw [nI_clamp (by omega), hc g hg]
  exact H _ _ _ _ _ _ _ _ _
theorem yq_sumL (hR : ∀ g, g < 4 → ∀ p, p < sz g → yq_R a_kinds a_parts a_numbers num g (kd g) (cc g) (cx g) (cy g) p) (hz : ∀ g, g < 4 → sz g ≤ 14 ∧ a_roots g = nI (14 * g + (sz g - 1))) (hW : ∀ g, g < 4 → fa_Bd (kd g) (st g) (el g) (ju g) (cc g) (cx g) (cy g) (sz g)) {a b : Int32} (f n : Nat) (hf : f < 4) (hn : n ≤ 8) (H : yq_A post f_made f_depth a_kinds a_parts a_numbers a_roots a_stack (fa_sum (fun j => fa_val (fa_res kd cc cx cy sz num f a (b + nI j))) n)) :
    ∀ d i : Nat, i + d = n → ∀ (f_waiting f_held f_called f_tired : Int32) (a_waits a_values a_firsts a_seconds a_counts : Nat → Int32), wY_sumOver_26 post (nI f) a b (nI n) (d + 1) (fa_sum (fun j => fa_val (fa_res kd cc cx cy sz num f a (b + nI j))) i) (nI i) f_made f_depth f_waiting f_held f_called f_tired a_kinds a_parts a_numbers a_roots a_stack a_waits a_values a_firsts a_seconds a_counts := by
  intro d
  induction d with
  | zero =>
    intro i hi f_waiting f_held f_called f_tired a_waits a_values a_firsts a_seconds a_counts
    have e : i = n := by omega
    subst e
    exact br_t (Int32.le_refl _) (H _ _ _ _ _ _ _ _ _)
  | succ d ih =>
    intro i hi f_waiting f_held f_called f_tired a_waits a_values a_firsts a_seconds a_counts
    refine br_f (nI_ge (by omega) (by omega)) ?_
    refine yq_work hR hz hW f hf a (b + nI i) ?_
    intro f_waiting' f_held' W' V' A' B' E' hc
    refine nm_r (e' := fa_sum (fun j => fa_val (fa_res kd cc cx cy sz num f a (b + nI j))) (i + 1)) rfl ?_
    exact nm_r (nI_1 i) (ih (i + 1) (by omega) _ _ _ _ _ _ _ _ _)
theorem yq_msum (hR : ∀ g, g < 4 → ∀ p, p < sz g → yq_R a_kinds a_parts a_numbers num g (kd g) (cc g) (cx g) (cy g) p) (hz : ∀ g, g < 4 → sz g ≤ 14 ∧ a_roots g = nI (14 * g + (sz g - 1))) (hW : ∀ g, g < 4 → fa_Bd (kd g) (st g) (el g) (ju g) (cc g) (cx g) (cy g) (sz g)) {a b : Int32} (f n : Nat) (hf : f < 4) (hn : n ≤ 8) (H : yq_A post f_made f_depth a_kinds a_parts a_numbers a_roots a_stack (fa_sum (fun j => fa_val (fa_res kd cc cx cy sz num f a (b + nI j))) n)) : wpY_sumOver post (f_made, f_depth, f_waiting, f_held, f_called, f_tired, a_kinds, a_parts, a_numbers, a_roots, a_stack, a_waits, a_values, a_firsts, a_seconds, a_counts) (nI f) a b (nI n) := by
  unfold wpY_sumOver
  refine yq_isF (fun h => absurd h (fa_nf hf)) (fun _ _ _ => br_f (by decide) ?_)
  refine br_f (nI_pos (by omega)) ?_
  refine br_f (nI_nlt (a := 8) hn (by decide)) ?_
  exact ⟨n + 1, yq_sumL hR hz hW f n hf hn H n 0 (by omega) _ _ _ _ _ _ _ _ _⟩
theorem yq_nsum {x a b y : Int32} (hx : (x < 0 ∨ nI 4 ≤ x) ∨ (y < 0 ∨ nI 9 ≤ y)) (H : post 0 (f_made, f_depth, f_waiting, f_held, f_called, f_tired, a_kinds, a_parts, a_numbers, a_roots, a_stack, a_waits, a_values, a_firsts, a_seconds, a_counts)) : wpY_sumOver post (f_made, f_depth, f_waiting, f_held, f_called, f_tired, a_kinds, a_parts, a_numbers, a_roots, a_stack, a_waits, a_values, a_firsts, a_seconds, a_counts) x a b y := by
  unfold wpY_sumOver
  refine yq_isF (fun _ => br_t rfl H) (fun f hf e => br_f (by decide) ?_)
  rcases hx with h | h | h
  · exact absurd (e ▸ h) (fa_nf hf)
  · exact br_t h H
  · refine br_c (fun _ => H) (fun _ => ?_)
    exact br_t (Int32.lt_of_lt_of_le (by decide) h) H
theorem yq_slvL (hR : ∀ g, g < 4 → ∀ p, p < sz g → yq_R a_kinds a_parts a_numbers num g (kd g) (cc g) (cx g) (cy g) p) (hz : ∀ g, g < 4 → sz g ≤ 14 ∧ a_roots g = nI (14 * g + (sz g - 1))) (hW : ∀ g, g < 4 → fa_Bd (kd g) (st g) (el g) (ju g) (cc g) (cx g) (cy g) (sz g)) {a v : Int32} (f : Nat) (hf : f < 4) :
    ∀ d i : Nat, i + d = 16 → yq_A post f_made f_depth a_kinds a_parts a_numbers a_roots a_stack (fa_slv (fun j => fa_res kd cc cx cy sz num f a (nI j)) v d i) → ∀ (f_waiting f_held f_called f_tired : Int32) (a_waits a_values a_firsts a_seconds a_counts : Nat → Int32), wY_solve_3 post (nI f) a v (d + 1) (nI i) f_made f_depth f_waiting f_held f_called f_tired a_kinds a_parts a_numbers a_roots a_stack a_waits a_values a_firsts a_seconds a_counts := by
  intro d
  induction d with
  | zero =>
    intro i hi H f_waiting f_held f_called f_tired a_waits a_values a_firsts a_seconds a_counts
    have e : i = 16 := by omega
    subst e
    exact br_t (nI_le (a := 16) (b := 16) (by decide) (by decide)) (H _ _ _ _ _ _ _ _ _)
  | succ d ih =>
    intro i hi H f_waiting f_held f_called f_tired a_waits a_values a_firsts a_seconds a_counts
    unfold fa_slv at H
    refine br_f (nI_ge (b := 16) (by omega) (by decide)) ?_
    refine yq_isF (fun h => absurd h (fa_nf hf)) (fun _ _ _ => br_f (by decide) ?_)
    refine yq_work hR hz hW f hf a (nI i) ?_
    intro f_waiting' f_held' W' V' A' B' E' hc
    by_cases e : fa_td (fa_res kd cc cx cy sz num f a (nI i)) = 0
    · rw [if_pos e] at H
      refine br_t e ?_
      by_cases e2 : fa_val (fa_res kd cc cx cy sz num f a (nI i)) = v
      · rw [if_pos e2] at H
        exact br_t e2 (H _ _ _ _ _ _ _ _ _)
      · rw [if_neg e2] at H
        exact br_f e2 (nm_r (nI_1 i) (ih (i + 1) (by omega) H _ _ _ _ _ _ _ _ _))
    · rw [if_neg e] at H
      exact br_f e (nm_r (nI_1 i) (ih (i + 1) (by omega) H _ _ _ _ _ _ _ _ _))
theorem yq_msolve (hR : ∀ g, g < 4 → ∀ p, p < sz g → yq_R a_kinds a_parts a_numbers num g (kd g) (cc g) (cx g) (cy g) p) (hz : ∀ g, g < 4 → sz g ≤ 14 ∧ a_roots g = nI (14 * g + (sz g - 1))) (hW : ∀ g, g < 4 → fa_Bd (kd g) (st g) (el g) (ju g) (cc g) (cx g) (cy g) (sz g)) {a v : Int32} (f : Nat) (hf : f < 4) (H : yq_A post f_made f_depth a_kinds a_parts a_numbers a_roots a_stack (fa_slv (fun j => fa_res kd cc cx cy sz num f a (nI j)) v 16 0)) : wpY_solve post (f_made, f_depth, f_waiting, f_held, f_called, f_tired, a_kinds, a_parts, a_numbers, a_roots, a_stack, a_waits, a_values, a_firsts, a_seconds, a_counts) (nI f) a v :=
  ⟨17, yq_slvL hR hz hW f hf 16 0 rfl H _ _ _ _ _ _ _ _ _⟩
theorem yq_nsolve {x a v : Int32} (hx : x < 0 ∨ nI 4 ≤ x) (H : post (-1) (f_made, f_depth, f_waiting, f_held, f_called, f_tired, a_kinds, a_parts, a_numbers, a_roots, a_stack, a_waits, a_values, a_firsts, a_seconds, a_counts)) : wpY_solve post (f_made, f_depth, f_waiting, f_held, f_called, f_tired, a_kinds, a_parts, a_numbers, a_roots, a_stack, a_waits, a_values, a_firsts, a_seconds, a_counts) x a v := by
  refine ⟨1, br_f (by decide) ?_⟩
  exact yq_isF (fun _ => br_t rfl H) (fun f hf e => absurd (e ▸ hx) (fa_nf hf))
end
