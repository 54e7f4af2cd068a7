/-- a run of f with a and b, by the evaluator -/
def fa_res (kd cc cx cy : Nat → Nat → Nat) (sz : Nat → Nat) (num : Nat → Int32) (f : Nat) (a b : Int32) : Option Int32 × Nat × (Nat → Int32) :=
  fa_ev kd (fun g p => num (14 * g + p)) cc cx cy sz 901 f (sz f - 1) a b 1 (upd (fun _ => 0) f 1)
def fa_val (r : Option Int32 × Nat × (Nat → Int32)) : Int32 := match r with
  | (some v, _, _) => v
  | (none, _, _) => 0
def fa_td (r : Option Int32 × Nat × (Nat → Int32)) : Int32 := match r with
  | (some _, _, _) => 0
  | (none, _, _) => 1
section
variable {f_stacked f_made f_open f_valueCount f_enteredInAll f_tired : Int32} {a_kind a_number a_elsePlace a_jumpPlace a_bodySize a_stack a_openFunction a_openFirst a_openSecond a_openPlace a_values a_entered : Nat → Int32} {post : Int32 → SX → Prop} {kd el ju st cc cx cy : Nat → Nat → Nat} {sz : Nat → Nat}
theorem xq_work (hK : xq_R a_kind kd) (hE : xq_R a_elsePlace el) (hJ : xq_R a_jumpPlace ju) (hz : ∀ g, g < 4 → a_bodySize g = nI (sz g) ∧ sz g ≤ 14) (hW : ∀ g, g < 4 → fa_Bd (kd g) (st g) (el g) (ju g) (cc g) (cx g) (cy g) (sz g)) (f : Nat) (hf : f < 4) (a b : Int32)
    (H : xq_E post f_stacked f_made a_kind a_number a_elsePlace a_jumpPlace a_bodySize a_stack (fa_val (fa_res kd cc cx cy sz a_number f a b)) (fa_td (fa_res kd cc cx cy sz a_number f a b)) (fa_res kd cc cx cy sz a_number f a b).2.1 (fa_res kd cc cx cy sz a_number f a b).2.2) : wpX_valueOfRun post (f_stacked, f_made, f_open, f_valueCount, f_enteredInAll, f_tired, a_kind, a_number, a_elsePlace, a_jumpPlace, a_bodySize, a_stack, a_openFunction, a_openFirst, a_openSecond, a_openPlace, a_values, a_entered) (nI f) a b := by
  refine xq_run hK hE hJ hz hW f hf a b (fun v n c e => ?_) (fun n c e => ?_)
  · have e' : fa_res kd cc cx cy sz a_number f a b = (some v, n, c) := e
    rw [e'] at H; exact H
  · have e' : fa_res kd cc cx cy sz a_number f a b = (none, n, c) := e
    rw [e'] at H; exact H
end
section
variable {f_made f_depth f_waiting f_held f_called f_tired : Int32} {a_kinds a_parts a_numbers a_roots a_stack a_waits a_values a_firsts a_seconds a_counts : Nat → Int32} {num : Nat → Int32} {kd el ju st cc cx cy : Nat → Nat → Nat} {sz : Nat → Nat}
theorem yq_run {post : Int32 → SY → Prop} (hR : ∀ g, g < 4 → ∀ p, p < sz g → yq_R a_kinds a_parts a_numbers num g (kd g) (cc g) (cx g) (cy g) p) (hz : ∀ g, g < 4 → sz g ≤ 14 ∧ a_roots g = nI (14 * g + (sz g - 1))) (hW : ∀ g, g < 4 → fa_Bd (kd g) (st g) (el g) (ju g) (cc g) (cx g) (cy g) (sz g)) (f : Nat) (hf : f < 4) (a b : Int32)
    (HS : ∀ (v : Int32) (n : Nat) (c : Nat → Int32), fa_res kd cc cx cy sz num f a b = (some v, n, c) → yq_E post f_made f_depth a_kinds a_parts a_numbers a_roots a_stack v 0 n c)
    (HN : ∀ (n : Nat) (c : Nat → Int32), fa_res kd cc cx cy sz num f a b = (none, n, c) → yq_E post f_made f_depth a_kinds a_parts a_numbers a_roots a_stack 0 1 n c) : wpY_work post (f_made, f_depth, f_waiting, f_held, f_called, f_tired, a_kinds, a_parts, a_numbers, a_roots, a_stack, a_waits, a_values, a_firsts, a_seconds, a_counts) (nI f) a b := by
  refine ⟨5, ?_⟩
  refine br_f (by decide) ⟨vp_in_iff.mpr (by decide), nm_r (e' := upd a_counts 0 0) rfl (nm_r (e' := 1) rfl ?_)⟩
  refine br_f (by decide) ⟨vp_in_iff.mpr (by decide), nm_r (e' := upd (upd a_counts 0 0) 1 0) rfl (nm_r (e' := 2) rfl ?_)⟩
  refine br_f (by decide) ⟨vp_in_iff.mpr (by decide), nm_r (e' := upd (upd (upd a_counts 0 0) 1 0) 2 0) rfl (nm_r (e' := 3) rfl ?_)⟩
  refine br_f (by decide) ⟨vp_in_iff.mpr (by decide), nm_r (e' := fa_z4 a_counts) rfl (nm_r (e' := 4) rfl ?_)⟩
  refine br_t (by decide) ?_
  obtain ⟨w0, w14, _⟩ := hW f hf
  refine yq_call 0 f 0 (14 * f + (sz f - 1)) rfl hf (by decide) (by decide) (hz f hf).2 ?_
  have h := fa_ysim kd (fun g p => num (14 * g + p)) cc cx cy sz st el ju (yq_M post f_made f_depth a_kinds a_parts a_numbers a_roots a_stack) (fun n c => yq_E post f_made f_depth a_kinds a_parts a_numbers a_roots a_stack 0 1 n c) hW
    (yq_C hR hz) (yq_F hR hz) (yq_S hR hz) (yq_T hR hz) (yq_H hR hz) (yq_U hR hz) (yq_O hR hz) (yq_K hR hz) (yq_X hR hz) (yq_I hR hz)
    901 f (sz f - 1) 0 a b 1 (upd (fun _ => 0) 0 a) (upd (fun _ => 0) 0 b) (upd (fun _ => 0) f 1) [] [] 0 0 (by omega) (by omega) hf (by omega) (by omega) pk_us pk_us (Nat.zero_le _) (Nat.zero_le _) (by omega) (by omega)
    (fun v n' A' B' c' e hn hn' hAB => by
      intro a_waits a_values a_firsts a_seconds a_counts _ hV _ hc
      have v0 : a_values 0 = v := hV.1
      exact ⟨1, yq_exit (r := v) (c := c') (br_t rfl (by rw [v0]; exact HS v n' c' e _ _ _ _ _ _ _ hc)) (Or.inl (by decide))⟩) HN
  refine h _ _ _ _ _ ⟨pk_us, True.intro⟩ True.intro (fun j hj => ?_) (fun g hg => ?_)
  · have e : j = 0 := by omega
    subst e
    rw [pk_us, pk_us, pk_us, pk_us]; exact ⟨rfl, rfl⟩
  · by_cases e : g = f
    · rw [e, pk_us, pk_us, fa_z4e _ f hf]; rfl
    · rw [pk_un e, pk_un e, fa_z4e _ g hg]
theorem yq_work {post : Int32 → SY → Prop} (hR : ∀ g, g < 4 → ∀ p, p < sz g → yq_R a_kinds a_parts a_numbers num g (kd g) (cc g) (cx g) (cy g) p) (hz : ∀ g, g < 4 → sz g ≤ 14 ∧ a_roots g = nI (14 * g + (sz g - 1))) (hW : ∀ g, g < 4 → fa_Bd (kd g) (st g) (el g) (ju g) (cc g) (cx g) (cy g) (sz g)) (f : Nat) (hf : f < 4) (a b : Int32)
    (H : yq_E post f_made f_depth a_kinds a_parts a_numbers a_roots a_stack (fa_val (fa_res kd cc cx cy sz num f a b)) (fa_td (fa_res kd cc cx cy sz num f a b)) (fa_res kd cc cx cy sz num f a b).2.1 (fa_res kd cc cx cy sz num f a b).2.2) : wpY_work post (f_made, f_depth, f_waiting, f_held, f_called, f_tired, a_kinds, a_parts, a_numbers, a_roots, a_stack, a_waits, a_values, a_firsts, a_seconds, a_counts) (nI f) a b := by
  refine yq_run hR hz hW f hf a b (fun v n c e => ?_) (fun n c e => ?_)
  · rw [e] at H; exact H
  · rw [e] at H; exact H
theorem yq_isF {post : Int32 → Prop} {x : Int32} (h0 : (x < 0 ∨ nI 4 ≤ x) → post 0) (h1 : ∀ f, f < 4 → x = nI f → post 1) : wpY_isFunction post (f_made, f_depth, f_waiting, f_held, f_called, f_tired, a_kinds, a_parts, a_numbers, a_roots, a_stack, a_waits, a_values, a_firsts, a_seconds, a_counts) x := by
  rcases pk_ix x (n := 4) (by decide) with h | h | ⟨j, hj, h⟩
  · exact br_t h (h0 (Or.inl h))
  · exact br_c (fun z => h0 (Or.inl z)) (fun _ => br_t (Int32.lt_of_lt_of_le (by decide) h) (h0 (Or.inr h)))
  · subst h
    exact br_f (nI_pos (by omega)) (br_f (nI_nlt (a := 3) (by omega) (by decide)) (h1 j hj rfl))
theorem yq_noteE {post : Int32 → SY → Prop} {x tk y x5 : Int32} {N : Nat} (w m : Nat) (hw : w < 14) (hm : m < 14) (h5 : tk ≤ x5)
    (H : post (nI (w + 1)) (nI (m + 1), nI (w + 1), f_waiting, f_held, f_called, f_tired, upd a_kinds (56 + m) x, a_parts, upd a_numbers (56 + m) y, a_roots, upd a_stack w (nI (56 + m)), a_waits, a_values, a_firsts, a_seconds, a_counts)) :
    wY_note_22 post x tk y (nI (56 + m)) (nI m) (nI w) f_waiting f_held f_called f_tired (N + 1) x5 a_kinds a_parts a_numbers a_roots a_stack a_waits a_values a_firsts a_seconds a_counts := by
  have cm : (nI (56 + m)).toNatClampNeg = 56 + m := nI_clamp (by omega)
  have vm : vp_in (nI (56 + m)) 70 := vp_in_nI (by omega) (by decide)
  refine br_t h5 ⟨vm, nm_r (e' := upd a_kinds (56 + m) x) (by rw [cm]) ⟨vm, nm_r (e' := upd a_numbers (56 + m) y) (by rw [cm]) ?_⟩⟩
  refine ⟨vp_in_nI hw (by decide), nm_r (e' := upd a_stack w (nI (56 + m))) (by rw [nI_clamp (by omega)]) ?_⟩
  exact nm_r (nI_1 m) (nm_r (nI_1 w) H)
theorem yq_note0 {post : Int32 → SY → Prop} {x y : Int32} (w m : Nat) (hw : w < 14) (hm : m < 14)
    (H : post (nI (w + 1)) (nI (m + 1), nI (w + 1), f_waiting, f_held, f_called, f_tired, upd a_kinds (56 + m) x, a_parts, upd a_numbers (56 + m) y, a_roots, upd a_stack w (nI (56 + m)), a_waits, a_values, a_firsts, a_seconds, a_counts)) :
    wpY_note post (nI m, nI w, f_waiting, f_held, f_called, f_tired, a_kinds, a_parts, a_numbers, a_roots, a_stack, a_waits, a_values, a_firsts, a_seconds, a_counts) x 0 y := by
  refine nm_r (e' := nI w) (pk_sub (b := 0) (Nat.zero_le _)) (nm_r (e' := nI (56 + m)) (nI_add 56 m) ⟨1, ?_⟩)
  exact yq_noteE w m hw hm (by decide) H
theorem yq_noteS {post : Int32 → SY → Prop} {x y tk : Int32} {N : Nat} (w m i : Nat) (hw : w + i < 14) (hm : m < 14) (hi : i < 3) (h5 : ¬ tk ≤ nI i)
    (H : wY_note_22 post x tk y (nI (56 + m)) (nI m) (nI w) f_waiting f_held f_called f_tired N (nI (i + 1)) a_kinds (upd a_parts (3 * (56 + m) + i) (a_stack (w + i))) a_numbers a_roots a_stack a_waits a_values a_firsts a_seconds a_counts) :
    wY_note_22 post x tk y (nI (56 + m)) (nI m) (nI w) f_waiting f_held f_called f_tired (N + 1) (nI i) a_kinds a_parts a_numbers a_roots a_stack a_waits a_values a_firsts a_seconds a_counts := by
  have e1 : nI w + nI i = nI (w + i) := nI_add w i
  have e2 : (3 : Int32) * nI (56 + m) + nI i = nI (3 * (56 + m) + i) := by rw [show (3 : Int32) * nI (56 + m) = nI (3 * (56 + m)) from pk_mul 3 _, nI_add]
  refine br_f h5 ⟨by rw [e1]; exact vp_in_nI hw (by decide), by rw [e2]; exact vp_in_nI (by omega) (by decide), nm_r (e' := upd a_parts (3 * (56 + m) + i) (a_stack (w + i))) ?_ (nm_r (nI_1 i) H)⟩
  rw [e1, e2, nI_clamp (by omega), nI_clamp (by omega)]
theorem yq_note2 {post : Int32 → SY → Prop} {x y : Int32} (w m : Nat) (hw : w + 1 < 14) (hm : m < 14)
    (H : post (nI (w + 1)) (nI (m + 1), nI (w + 1), f_waiting, f_held, f_called, f_tired, upd a_kinds (56 + m) x, upd (upd a_parts (3 * (56 + m)) (a_stack w)) (3 * (56 + m) + 1) (a_stack (w + 1)), upd a_numbers (56 + m) y, a_roots, upd a_stack w (nI (56 + m)), a_waits, a_values, a_firsts, a_seconds, a_counts)) :
    wpY_note post (nI m, nI (w + 2), f_waiting, f_held, f_called, f_tired, a_kinds, a_parts, a_numbers, a_roots, a_stack, a_waits, a_values, a_firsts, a_seconds, a_counts) x 2 y := by
  refine nm_r (e' := nI w) (pk_sub (a := w + 2) (b := 2) (by omega)) (nm_r (e' := nI (56 + m)) (nI_add 56 m) ⟨3, ?_⟩)
  refine yq_noteS w m 0 (by omega) hm (by omega) (by decide) ?_
  refine yq_noteS w m 1 (by omega) hm (by omega) (by decide) ?_
  exact yq_noteE w m (by omega) hm (by decide) H
theorem yq_note3 {post : Int32 → SY → Prop} {x y : Int32} (w m : Nat) (hw : w + 2 < 14) (hm : m < 14)
    (H : post (nI (w + 1)) (nI (m + 1), nI (w + 1), f_waiting, f_held, f_called, f_tired, upd a_kinds (56 + m) x, upd (upd (upd a_parts (3 * (56 + m)) (a_stack w)) (3 * (56 + m) + 1) (a_stack (w + 1))) (3 * (56 + m) + 2) (a_stack (w + 2)), upd a_numbers (56 + m) y, a_roots, upd a_stack w (nI (56 + m)), a_waits, a_values, a_firsts, a_seconds, a_counts)) :
    wpY_note post (nI m, nI (w + 3), f_waiting, f_held, f_called, f_tired, a_kinds, a_parts, a_numbers, a_roots, a_stack, a_waits, a_values, a_firsts, a_seconds, a_counts) x 3 y := by
  refine nm_r (e' := nI w) (pk_sub (a := w + 3) (b := 3) (by omega)) (nm_r (e' := nI (56 + m)) (nI_add 56 m) ⟨4, ?_⟩)
  refine yq_noteS w m 0 (by omega) hm (by omega) (by decide) ?_
  refine yq_noteS w m 1 (by omega) hm (by omega) (by decide) ?_
  refine yq_noteS w m 2 (by omega) hm (by omega) (by decide) ?_
  exact yq_noteE w m (by omega) hm (by decide) H
/-- the reference's copy of the parts, c of them -/
def fa_cq (f c : Nat) (sh : Int32) (P : Nat → Int32) : Nat → Int32 := fun q => if 42 * f ≤ q ∧ q < 42 * f + c then P (168 + (q - 42 * f)) + sh else P q
theorem fa_cq0 (f : Nat) (sh : Int32) (P : Nat → Int32) : fa_cq f 0 sh P = P := by
  funext q
  exact if_neg (by omega)
theorem fa_cqS (f c : Nat) (sh : Int32) (P : Nat → Int32) (hf : f < 4) (hc : c < 42) : upd (fa_cq f c sh P) (42 * f + c) (fa_cq f c sh P (168 + c) + sh) = fa_cq f (c + 1) sh P := by
  have e : fa_cq f c sh P (168 + c) = P (168 + c) := if_neg (by omega)
  rw [e]
  funext q
  unfold upd fa_cq
  by_cases h : q = 42 * f + c
  · rw [if_pos h, if_pos (by omega)]
    congr 2; omega
  · rw [if_neg h]
    by_cases h2 : 42 * f ≤ q ∧ q < 42 * f + c
    · rw [if_pos h2, if_pos (by omega)]
    · rw [if_neg h2, if_neg (by omega)]
theorem yq_sh (f i : Nat) : nI (56 + i) + (14 * nI f - 56) = nI (14 * f + i) := by
  have e1 : nI (56 + i) = 56 + nI i := (nI_add 56 i).symm
  have e2 : nI (14 * f + i) = 14 * nI f + nI i := by rw [← nI_add, ← pk_mul]; rfl
  rw [e1, e2]
  grind
theorem yq_dS {post : Int32 → SY → Prop} {J : Int32 → (Nat → Int32) → (Nat → Int32) → (Nat → Int32) → (Nat → Int32) → (Nat → Int32) → (Nat → Int32) → (Nat → Int32) → (Nat → Int32) → (Nat → Int32) → (Nat → Int32) → Prop} {N : Nat} {P : Nat → Int32} (f i j : Nat) (hf : f < 4) (hi : i < 14) (hj : j < 3)
    (H : wY_define_75 post J (nI f) (14 * nI f - 56) (nI (56 + i)) f_made f_depth f_waiting f_held f_called f_tired N (nI (j + 1)) a_kinds (fa_cq f (3 * i + j + 1) (14 * nI f - 56) P) a_numbers a_roots a_stack a_waits a_values a_firsts a_seconds a_counts) :
    wY_define_75 post J (nI f) (14 * nI f - 56) (nI (56 + i)) f_made f_depth f_waiting f_held f_called f_tired (N + 1) (nI j) a_kinds (fa_cq f (3 * i + j) (14 * nI f - 56) P) a_numbers a_roots a_stack a_waits a_values a_firsts a_seconds a_counts := by
  have e1 : (3 : Int32) * nI (56 + i) + nI j = nI (168 + (3 * i + j)) := by
    rw [show (3 : Int32) * nI (56 + i) = nI (3 * (56 + i)) from pk_mul 3 _, nI_add]
    exact congrArg nI (by omega)
  have e2 : (3 : Int32) * (nI (56 + i) + (14 * nI f - 56)) + nI j = nI (42 * f + (3 * i + j)) := by
    rw [yq_sh, show (3 : Int32) * nI (14 * f + i) = nI (3 * (14 * f + i)) from pk_mul 3 _, nI_add]
    exact congrArg nI (by omega)
  refine br_f (nI_ge (b := 3) hj (by decide)) ⟨by rw [e1]; exact vp_in_nI (by omega) (by decide), by rw [e2]; exact vp_in_nI (by omega) (by decide), nm_r (e' := fa_cq f (3 * i + j + 1) (14 * nI f - 56) P) ?_ (nm_r (nI_1 j) H)⟩
  rw [e1, e2, nI_clamp (by omega), nI_clamp (by omega)]
  exact fa_cqS f (3 * i + j) _ P hf (by omega)
theorem yq_dL {post : Int32 → SY → Prop} (f m : Nat) (hf : f < 4) (hm : m ≤ 14) (s0 : Nat) (hs : a_stack 0 = nI (56 + s0))
    (H : post (nI m) (0, 0, f_waiting, f_held, f_called, f_tired, fa_cp f m a_kinds, fa_cq f (3 * m) (14 * nI f - 56) a_parts, fa_cp f m a_numbers, upd a_roots f (nI (14 * f + s0)), a_stack, a_waits, a_values, a_firsts, a_seconds, a_counts)) :
    ∀ d i : Nat, i + d = m → wY_define_33 post (nI f) (14 * nI f - 56) (nI m) f_depth f_waiting f_held f_called f_tired (d + 1) (nI (56 + i)) (fa_cp f i a_kinds) (fa_cq f (3 * i) (14 * nI f - 56) a_parts) (fa_cp f i a_numbers) a_roots a_stack a_waits a_values a_firsts a_seconds a_counts := by
  intro d
  induction d with
  | zero =>
    intro i hi
    have e : i = m := by omega
    subst e
    refine br_t (by rw [show (56 : Int32) + nI i = nI (56 + i) from nI_add 56 i]; exact Int32.le_refl _) ?_
    refine ⟨vp_in_nI hf (by decide), nm_r (e' := upd a_roots f (nI (14 * f + s0))) (by rw [nI_clamp (by omega), hs, yq_sh]) ?_⟩
    exact H
  | succ d ih =>
    intro i hi
    have v1 : vp_in (nI (56 + i)) 70 := vp_in_nI (by omega) (by decide)
    have v2 : vp_in (nI (56 + i) + (14 * nI f - 56)) 70 := by rw [yq_sh]; exact vp_in_nI (by omega) (by decide)
    have c1 : (nI (56 + i)).toNatClampNeg = 56 + i := nI_clamp (by omega)
    have c2 : (nI (56 + i) + (14 * nI f - 56)).toNatClampNeg = 14 * f + i := by rw [yq_sh]; exact nI_clamp (by omega)
    have g1 : upd (fa_cp f i a_kinds) (nI (56 + i) + (14 * nI f - 56)).toNatClampNeg (fa_cp f i a_kinds (nI (56 + i)).toNatClampNeg) = fa_cp f (i + 1) a_kinds := by
      rw [c1, c2, fa_cpD f i i a_kinds hf (by omega)]; exact fa_cpS f i a_kinds hf (by omega)
    have g2 : upd (fa_cp f i a_numbers) (nI (56 + i) + (14 * nI f - 56)).toNatClampNeg (fa_cp f i a_numbers (nI (56 + i)).toNatClampNeg) = fa_cp f (i + 1) a_numbers := by
      rw [c1, c2, fa_cpD f i i a_numbers hf (by omega)]; exact fa_cpS f i a_numbers hf (by omega)
    refine br_f (by rw [show (56 : Int32) + nI m = nI (56 + m) from nI_add 56 m]; exact nI_ge (by omega) (by omega)) ?_
    refine ⟨v1, v2, nm_r g1 ⟨v1, v2, nm_r g2 ⟨4, ?_⟩⟩⟩
    refine yq_dS f i 0 hf (by omega) (by omega) ?_
    refine yq_dS f i 1 hf (by omega) (by omega) ?_
    refine yq_dS f i 2 hf (by omega) (by omega) ?_
    refine br_t (by decide) (nm_r (nI_1 (56 + i)) ?_)
    exact ih (i + 1) (by omega)
end
