theorem pk_us {f : Nat → Int32} {k : Nat} {x : Int32} : upd f k x k = x := if_pos rfl
theorem pk_un {f : Nat → Int32} {k j : Nat} {x : Int32} (h : j ≠ k) : upd f k x j = f j := if_neg h
theorem pk_sub {a b : Nat} (h : b ≤ a) : nI a - nI b = nI (a - b) := by
  obtain ⟨c, rfl⟩ : ∃ c, a = c + b := ⟨a - b, by omega⟩
  rw [← nI_add, Int32.add_sub_cancel, Nat.add_sub_cancel]
theorem pk_m1 (n : Nat) : nI (n + 1) + (-1) = nI n := by
  rw [← nI_1, Int32.add_assoc, show (1 : Int32) + (-1) = 0 from rfl, Int32.add_zero]
theorem pk_mul (a b : Nat) : nI a * nI b = nI (a * b) := (Int32.ofNat_mul a b).symm
theorem pk_div {a d : Nat} (ha : a < 2 ^ 31) (h0 : 0 < d) (hd : d < 2 ^ 31) : nI a / nI d = nI (a / d) := by
  apply Int32.toInt_inj.mp
  rw [lg_idiv_nonneg (by rw [nI_toInt ha]; omega) (by rw [nI_toInt hd]; omega), nI_toInt ha, nI_toInt hd, nI_toInt (Nat.lt_of_le_of_lt (Nat.div_le_self a d) ha)]
  first | rfl | exact (Int.natCast_ediv _ _).symm
theorem pk_rem {a d : Nat} (ha : a < 2 ^ 31) (h0 : 0 < d) (hd : d < 2 ^ 31) : nI a - nI a / nI d * nI d = nI (a % d) := by
  rw [pk_div ha h0 hd, pk_mul, pk_sub (Nat.div_mul_le_self a d)]
  exact congrArg nI (by have := Nat.div_add_mod' a d; omega)
theorem pk_ix (x : Int32) {n : Nat} (hn : n < 2 ^ 31) : x < 0 ∨ nI n ≤ x ∨ ∃ j : Nat, j < n ∧ x = nI j := by
  by_cases h : x < 0
  · exact Or.inl h
  · obtain ⟨j, hj, rfl⟩ := nI_of h
    by_cases h2 : j < n
    · exact Or.inr (Or.inr ⟨j, h2, rfl⟩)
    · exact Or.inr (Or.inl (nI_le (by omega) hj))
theorem xq_ix (g p : Nat) : nI g * 14 + nI p = nI (14 * g + p) := by
  show nI g * nI 14 + nI p = _
  rw [pk_mul, nI_add, Nat.mul_comm]
section
variable {f_stacked f_made f_open f_valueCount f_enteredInAll f_tired : Int32} {a_kind a_number a_elsePlace a_jumpPlace a_bodySize a_stack a_openFunction a_openFirst a_openSecond a_openPlace a_values a_entered : Nat → Int32}
theorem xq_at_kind {post : Int32 → Prop} {x y : Int32} (j : Nat) (hx : x = nI j) (h : j < 70) (hy : a_kind j = y) (hp : post y) : wpX_at__kind post (f_stacked, f_made, f_open, f_valueCount, f_enteredInAll, f_tired, a_kind, a_number, a_elsePlace, a_jumpPlace, a_bodySize, a_stack, a_openFunction, a_openFirst, a_openSecond, a_openPlace, a_values, a_entered) x := by
  subst hx hy
  exact br_f (nI_pos (by omega)) (br_f (nI_ge h (by decide)) ⟨vp_in_nI h (by decide), by rw [nI_clamp (by omega)]; exact hp⟩)
theorem xq_put_kind {post : SX → Prop} {x y : Int32} (j : Nat) (hx : x = nI j) (h : j < 70) (hp : post (f_stacked, f_made, f_open, f_valueCount, f_enteredInAll, f_tired, upd a_kind j y, a_number, a_elsePlace, a_jumpPlace, a_bodySize, a_stack, a_openFunction, a_openFirst, a_openSecond, a_openPlace, a_values, a_entered)) : wpX_put__kind post (f_stacked, f_made, f_open, f_valueCount, f_enteredInAll, f_tired, a_kind, a_number, a_elsePlace, a_jumpPlace, a_bodySize, a_stack, a_openFunction, a_openFirst, a_openSecond, a_openPlace, a_values, a_entered) x y := by
  subst hx
  exact br_f (nI_pos (by omega)) (br_f (nI_ge h (by decide)) ⟨vp_in_nI h (by decide), nm_r (by rw [nI_clamp (by omega)]) hp⟩)
theorem xq_at_number {post : Int32 → Prop} {x y : Int32} (j : Nat) (hx : x = nI j) (h : j < 70) (hy : a_number j = y) (hp : post y) : wpX_at__number post (f_stacked, f_made, f_open, f_valueCount, f_enteredInAll, f_tired, a_kind, a_number, a_elsePlace, a_jumpPlace, a_bodySize, a_stack, a_openFunction, a_openFirst, a_openSecond, a_openPlace, a_values, a_entered) x := by
  subst hx hy
  exact br_f (nI_pos (by omega)) (br_f (nI_ge h (by decide)) ⟨vp_in_nI h (by decide), by rw [nI_clamp (by omega)]; exact hp⟩)
theorem xq_put_number {post : SX → Prop} {x y : Int32} (j : Nat) (hx : x = nI j) (h : j < 70) (hp : post (f_stacked, f_made, f_open, f_valueCount, f_enteredInAll, f_tired, a_kind, upd a_number j y, a_elsePlace, a_jumpPlace, a_bodySize, a_stack, a_openFunction, a_openFirst, a_openSecond, a_openPlace, a_values, a_entered)) : wpX_put__number post (f_stacked, f_made, f_open, f_valueCount, f_enteredInAll, f_tired, a_kind, a_number, a_elsePlace, a_jumpPlace, a_bodySize, a_stack, a_openFunction, a_openFirst, a_openSecond, a_openPlace, a_values, a_entered) x y := by
  subst hx
  exact br_f (nI_pos (by omega)) (br_f (nI_ge h (by decide)) ⟨vp_in_nI h (by decide), nm_r (by rw [nI_clamp (by omega)]) hp⟩)
theorem xq_at_elsePlace {post : Int32 → Prop} {x y : Int32} (j : Nat) (hx : x = nI j) (h : j < 70) (hy : a_elsePlace j = y) (hp : post y) : wpX_at__elsePlace post (f_stacked, f_made, f_open, f_valueCount, f_enteredInAll, f_tired, a_kind, a_number, a_elsePlace, a_jumpPlace, a_bodySize, a_stack, a_openFunction, a_openFirst, a_openSecond, a_openPlace, a_values, a_entered) x := by
  subst hx hy
  exact br_f (nI_pos (by omega)) (br_f (nI_ge h (by decide)) ⟨vp_in_nI h (by decide), by rw [nI_clamp (by omega)]; exact hp⟩)
theorem xq_put_elsePlace {post : SX → Prop} {x y : Int32} (j : Nat) (hx : x = nI j) (h : j < 70) (hp : post (f_stacked, f_made, f_open, f_valueCount, f_enteredInAll, f_tired, a_kind, a_number, upd a_elsePlace j y, a_jumpPlace, a_bodySize, a_stack, a_openFunction, a_openFirst, a_openSecond, a_openPlace, a_values, a_entered)) : wpX_put__elsePlace post (f_stacked, f_made, f_open, f_valueCount, f_enteredInAll, f_tired, a_kind, a_number, a_elsePlace, a_jumpPlace, a_bodySize, a_stack, a_openFunction, a_openFirst, a_openSecond, a_openPlace, a_values, a_entered) x y := by
  subst hx
  exact br_f (nI_pos (by omega)) (br_f (nI_ge h (by decide)) ⟨vp_in_nI h (by decide), nm_r (by rw [nI_clamp (by omega)]) hp⟩)
theorem xq_at_jumpPlace {post : Int32 → Prop} {x y : Int32} (j : Nat) (hx : x = nI j) (h : j < 70) (hy : a_jumpPlace j = y) (hp : post y) : wpX_at__jumpPlace post (f_stacked, f_made, f_open, f_valueCount, f_enteredInAll, f_tired, a_kind, a_number, a_elsePlace, a_jumpPlace, a_bodySize, a_stack, a_openFunction, a_openFirst, a_openSecond, a_openPlace, a_values, a_entered) x := by
  subst hx hy
  exact br_f (nI_pos (by omega)) (br_f (nI_ge h (by decide)) ⟨vp_in_nI h (by decide), by rw [nI_clamp (by omega)]; exact hp⟩)
theorem xq_put_jumpPlace {post : SX → Prop} {x y : Int32} (j : Nat) (hx : x = nI j) (h : j < 70) (hp : post (f_stacked, f_made, f_open, f_valueCount, f_enteredInAll, f_tired, a_kind, a_number, a_elsePlace, upd a_jumpPlace j y, a_bodySize, a_stack, a_openFunction, a_openFirst, a_openSecond, a_openPlace, a_values, a_entered)) : wpX_put__jumpPlace post (f_stacked, f_made, f_open, f_valueCount, f_enteredInAll, f_tired, a_kind, a_number, a_elsePlace, a_jumpPlace, a_bodySize, a_stack, a_openFunction, a_openFirst, a_openSecond, a_openPlace, a_values, a_entered) x y := by
  subst hx
  exact br_f (nI_pos (by omega)) (br_f (nI_ge h (by decide)) ⟨vp_in_nI h (by decide), nm_r (by rw [nI_clamp (by omega)]) hp⟩)
theorem xq_at_stack {post : Int32 → Prop} {x y : Int32} (j : Nat) (hx : x = nI j) (h : j < 14) (hy : a_stack j = y) (hp : post y) : wpX_at__stack post (f_stacked, f_made, f_open, f_valueCount, f_enteredInAll, f_tired, a_kind, a_number, a_elsePlace, a_jumpPlace, a_bodySize, a_stack, a_openFunction, a_openFirst, a_openSecond, a_openPlace, a_values, a_entered) x := by
  subst hx hy
  exact br_f (nI_pos (by omega)) (br_f (nI_ge h (by decide)) ⟨vp_in_nI h (by decide), by rw [nI_clamp (by omega)]; exact hp⟩)
theorem xq_put_stack {post : SX → Prop} {x y : Int32} (j : Nat) (hx : x = nI j) (h : j < 14) (hp : post (f_stacked, f_made, f_open, f_valueCount, f_enteredInAll, f_tired, a_kind, a_number, a_elsePlace, a_jumpPlace, a_bodySize, upd a_stack j y, a_openFunction, a_openFirst, a_openSecond, a_openPlace, a_values, a_entered)) : wpX_put__stack post (f_stacked, f_made, f_open, f_valueCount, f_enteredInAll, f_tired, a_kind, a_number, a_elsePlace, a_jumpPlace, a_bodySize, a_stack, a_openFunction, a_openFirst, a_openSecond, a_openPlace, a_values, a_entered) x y := by
  subst hx
  exact br_f (nI_pos (by omega)) (br_f (nI_ge h (by decide)) ⟨vp_in_nI h (by decide), nm_r (by rw [nI_clamp (by omega)]) hp⟩)
theorem xq_at_bodySize {post : Int32 → Prop} {x y : Int32} (j : Nat) (hx : x = nI j) (h : j < 4) (hy : a_bodySize j = y) (hp : post y) : wpX_at__bodySize post (f_stacked, f_made, f_open, f_valueCount, f_enteredInAll, f_tired, a_kind, a_number, a_elsePlace, a_jumpPlace, a_bodySize, a_stack, a_openFunction, a_openFirst, a_openSecond, a_openPlace, a_values, a_entered) x := by
  subst hx hy
  exact br_f (nI_pos (by omega)) (br_f (nI_ge h (by decide)) ⟨vp_in_nI h (by decide), by rw [nI_clamp (by omega)]; exact hp⟩)
theorem xq_put_bodySize {post : SX → Prop} {x y : Int32} (j : Nat) (hx : x = nI j) (h : j < 4) (hp : post (f_stacked, f_made, f_open, f_valueCount, f_enteredInAll, f_tired, a_kind, a_number, a_elsePlace, a_jumpPlace, upd a_bodySize j y, a_stack, a_openFunction, a_openFirst, a_openSecond, a_openPlace, a_values, a_entered)) : wpX_put__bodySize post (f_stacked, f_made, f_open, f_valueCount, f_enteredInAll, f_tired, a_kind, a_number, a_elsePlace, a_jumpPlace, a_bodySize, a_stack, a_openFunction, a_openFirst, a_openSecond, a_openPlace, a_values, a_entered) x y := by
  subst hx
  exact br_f (nI_pos (by omega)) (br_f (nI_ge h (by decide)) ⟨vp_in_nI h (by decide), nm_r (by rw [nI_clamp (by omega)]) hp⟩)
theorem xq_at_entered {post : Int32 → Prop} {x y : Int32} (j : Nat) (hx : x = nI j) (h : j < 4) (hy : a_entered j = y) (hp : post y) : wpX_at__entered post (f_stacked, f_made, f_open, f_valueCount, f_enteredInAll, f_tired, a_kind, a_number, a_elsePlace, a_jumpPlace, a_bodySize, a_stack, a_openFunction, a_openFirst, a_openSecond, a_openPlace, a_values, a_entered) x := by
  subst hx hy
  exact br_f (nI_pos (by omega)) (br_f (nI_ge h (by decide)) ⟨vp_in_nI h (by decide), by rw [nI_clamp (by omega)]; exact hp⟩)
theorem xq_put_entered {post : SX → Prop} {x y : Int32} (j : Nat) (hx : x = nI j) (h : j < 4) (hp : post (f_stacked, f_made, f_open, f_valueCount, f_enteredInAll, f_tired, a_kind, a_number, a_elsePlace, a_jumpPlace, a_bodySize, a_stack, a_openFunction, a_openFirst, a_openSecond, a_openPlace, a_values, upd a_entered j y)) : wpX_put__entered post (f_stacked, f_made, f_open, f_valueCount, f_enteredInAll, f_tired, a_kind, a_number, a_elsePlace, a_jumpPlace, a_bodySize, a_stack, a_openFunction, a_openFirst, a_openSecond, a_openPlace, a_values, a_entered) x y := by
  subst hx
  exact br_f (nI_pos (by omega)) (br_f (nI_ge h (by decide)) ⟨vp_in_nI h (by decide), nm_r (by rw [nI_clamp (by omega)]) hp⟩)
theorem xq_at_openFunction {post : Int32 → Prop} {x y : Int32} (j : Nat) (hx : x = nI j) (h : j < 60) (hy : a_openFunction j = y) (hp : post y) : wpX_at__openFunction post (f_stacked, f_made, f_open, f_valueCount, f_enteredInAll, f_tired, a_kind, a_number, a_elsePlace, a_jumpPlace, a_bodySize, a_stack, a_openFunction, a_openFirst, a_openSecond, a_openPlace, a_values, a_entered) x := by
  subst hx hy
  exact br_f (nI_pos (by omega)) (br_f (nI_ge h (by decide)) ⟨vp_in_nI h (by decide), by rw [nI_clamp (by omega)]; exact hp⟩)
theorem xq_put_openFunction {post : SX → Prop} {x y : Int32} (j : Nat) (hx : x = nI j) (h : j < 60) (hp : post (f_stacked, f_made, f_open, f_valueCount, f_enteredInAll, f_tired, a_kind, a_number, a_elsePlace, a_jumpPlace, a_bodySize, a_stack, upd a_openFunction j y, a_openFirst, a_openSecond, a_openPlace, a_values, a_entered)) : wpX_put__openFunction post (f_stacked, f_made, f_open, f_valueCount, f_enteredInAll, f_tired, a_kind, a_number, a_elsePlace, a_jumpPlace, a_bodySize, a_stack, a_openFunction, a_openFirst, a_openSecond, a_openPlace, a_values, a_entered) x y := by
  subst hx
  exact br_f (nI_pos (by omega)) (br_f (nI_ge h (by decide)) ⟨vp_in_nI h (by decide), nm_r (by rw [nI_clamp (by omega)]) hp⟩)
theorem xq_at_openFirst {post : Int32 → Prop} {x y : Int32} (j : Nat) (hx : x = nI j) (h : j < 60) (hy : a_openFirst j = y) (hp : post y) : wpX_at__openFirst post (f_stacked, f_made, f_open, f_valueCount, f_enteredInAll, f_tired, a_kind, a_number, a_elsePlace, a_jumpPlace, a_bodySize, a_stack, a_openFunction, a_openFirst, a_openSecond, a_openPlace, a_values, a_entered) x := by
  subst hx hy
  exact br_f (nI_pos (by omega)) (br_f (nI_ge h (by decide)) ⟨vp_in_nI h (by decide), by rw [nI_clamp (by omega)]; exact hp⟩)
theorem xq_put_openFirst {post : SX → Prop} {x y : Int32} (j : Nat) (hx : x = nI j) (h : j < 60) (hp : post (f_stacked, f_made, f_open, f_valueCount, f_enteredInAll, f_tired, a_kind, a_number, a_elsePlace, a_jumpPlace, a_bodySize, a_stack, a_openFunction, upd a_openFirst j y, a_openSecond, a_openPlace, a_values, a_entered)) : wpX_put__openFirst post (f_stacked, f_made, f_open, f_valueCount, f_enteredInAll, f_tired, a_kind, a_number, a_elsePlace, a_jumpPlace, a_bodySize, a_stack, a_openFunction, a_openFirst, a_openSecond, a_openPlace, a_values, a_entered) x y := by
  subst hx
  exact br_f (nI_pos (by omega)) (br_f (nI_ge h (by decide)) ⟨vp_in_nI h (by decide), nm_r (by rw [nI_clamp (by omega)]) hp⟩)
theorem xq_at_openSecond {post : Int32 → Prop} {x y : Int32} (j : Nat) (hx : x = nI j) (h : j < 60) (hy : a_openSecond j = y) (hp : post y) : wpX_at__openSecond post (f_stacked, f_made, f_open, f_valueCount, f_enteredInAll, f_tired, a_kind, a_number, a_elsePlace, a_jumpPlace, a_bodySize, a_stack, a_openFunction, a_openFirst, a_openSecond, a_openPlace, a_values, a_entered) x := by
  subst hx hy
  exact br_f (nI_pos (by omega)) (br_f (nI_ge h (by decide)) ⟨vp_in_nI h (by decide), by rw [nI_clamp (by omega)]; exact hp⟩)
theorem xq_put_openSecond {post : SX → Prop} {x y : Int32} (j : Nat) (hx : x = nI j) (h : j < 60) (hp : post (f_stacked, f_made, f_open, f_valueCount, f_enteredInAll, f_tired, a_kind, a_number, a_elsePlace, a_jumpPlace, a_bodySize, a_stack, a_openFunction, a_openFirst, upd a_openSecond j y, a_openPlace, a_values, a_entered)) : wpX_put__openSecond post (f_stacked, f_made, f_open, f_valueCount, f_enteredInAll, f_tired, a_kind, a_number, a_elsePlace, a_jumpPlace, a_bodySize, a_stack, a_openFunction, a_openFirst, a_openSecond, a_openPlace, a_values, a_entered) x y := by
  subst hx
  exact br_f (nI_pos (by omega)) (br_f (nI_ge h (by decide)) ⟨vp_in_nI h (by decide), nm_r (by rw [nI_clamp (by omega)]) hp⟩)
theorem xq_at_openPlace {post : Int32 → Prop} {x y : Int32} (j : Nat) (hx : x = nI j) (h : j < 60) (hy : a_openPlace j = y) (hp : post y) : wpX_at__openPlace post (f_stacked, f_made, f_open, f_valueCount, f_enteredInAll, f_tired, a_kind, a_number, a_elsePlace, a_jumpPlace, a_bodySize, a_stack, a_openFunction, a_openFirst, a_openSecond, a_openPlace, a_values, a_entered) x := by
  subst hx hy
  exact br_f (nI_pos (by omega)) (br_f (nI_ge h (by decide)) ⟨vp_in_nI h (by decide), by rw [nI_clamp (by omega)]; exact hp⟩)
theorem xq_put_openPlace {post : SX → Prop} {x y : Int32} (j : Nat) (hx : x = nI j) (h : j < 60) (hp : post (f_stacked, f_made, f_open, f_valueCount, f_enteredInAll, f_tired, a_kind, a_number, a_elsePlace, a_jumpPlace, a_bodySize, a_stack, a_openFunction, a_openFirst, a_openSecond, upd a_openPlace j y, a_values, a_entered)) : wpX_put__openPlace post (f_stacked, f_made, f_open, f_valueCount, f_enteredInAll, f_tired, a_kind, a_number, a_elsePlace, a_jumpPlace, a_bodySize, a_stack, a_openFunction, a_openFirst, a_openSecond, a_openPlace, a_values, a_entered) x y := by
  subst hx
  exact br_f (nI_pos (by omega)) (br_f (nI_ge h (by decide)) ⟨vp_in_nI h (by decide), nm_r (by rw [nI_clamp (by omega)]) hp⟩)
theorem xq_at_values {post : Int32 → Prop} {x y : Int32} (j : Nat) (hx : x = nI j) (h : j < 840) (hy : a_values j = y) (hp : post y) : wpX_at__values post (f_stacked, f_made, f_open, f_valueCount, f_enteredInAll, f_tired, a_kind, a_number, a_elsePlace, a_jumpPlace, a_bodySize, a_stack, a_openFunction, a_openFirst, a_openSecond, a_openPlace, a_values, a_entered) x := by
  subst hx hy
  exact br_f (nI_pos (by omega)) (br_f (nI_ge h (by decide)) ⟨vp_in_nI h (by decide), by rw [nI_clamp (by omega)]; exact hp⟩)
theorem xq_put_values {post : SX → Prop} {x y : Int32} (j : Nat) (hx : x = nI j) (h : j < 840) (hp : post (f_stacked, f_made, f_open, f_valueCount, f_enteredInAll, f_tired, a_kind, a_number, a_elsePlace, a_jumpPlace, a_bodySize, a_stack, a_openFunction, a_openFirst, a_openSecond, a_openPlace, upd a_values j y, a_entered)) : wpX_put__values post (f_stacked, f_made, f_open, f_valueCount, f_enteredInAll, f_tired, a_kind, a_number, a_elsePlace, a_jumpPlace, a_bodySize, a_stack, a_openFunction, a_openFirst, a_openSecond, a_openPlace, a_values, a_entered) x y := by
  subst hx
  exact br_f (nI_pos (by omega)) (br_f (nI_ge h (by decide)) ⟨vp_in_nI h (by decide), nm_r (by rw [nI_clamp (by omega)]) hp⟩)
theorem xq_pushTerm {post : Int32 → SX → Prop} {p0 p1 : Int32} (w m : Nat) (hw : w < 14) (hm : m < 14)
    (hp : post (nI (w + 1)) (nI (w + 1), nI (m + 1), f_open, f_valueCount, f_enteredInAll, f_tired, upd a_kind (56 + m) p0, upd a_number (56 + m) p1, upd a_elsePlace (56 + m) 0, upd a_jumpPlace (56 + m) 0, a_bodySize, upd a_stack w (nI m), a_openFunction, a_openFirst, a_openSecond, a_openPlace, a_values, a_entered)) :
    wpX_pushTerm post (nI w, nI m, f_open, f_valueCount, f_enteredInAll, f_tired, a_kind, a_number, a_elsePlace, a_jumpPlace, a_bodySize, a_stack, a_openFunction, a_openFirst, a_openSecond, a_openPlace, a_values, a_entered) p0 p1 := by
  refine nm_r (e' := nI (56 + m)) (nI_add 56 m) ?_
  refine xq_put_kind (56 + m) rfl (by omega) ?_
  refine xq_put_number (56 + m) rfl (by omega) ?_
  refine xq_put_elsePlace (56 + m) rfl (by omega) ?_
  refine xq_put_jumpPlace (56 + m) rfl (by omega) ?_
  refine xq_put_stack w rfl hw ?_
  refine nm_r (e' := nI (w + 1)) (nI_1 w) ?_
  exact nm_r (e' := nI (m + 1)) (nI_1 m) hp
/-- a row copied up to i -/
def fa_cp (f i : Nat) (A : Nat → Int32) : Nat → Int32 := fun q => if 14 * f ≤ q ∧ q < 14 * f + i then A (56 + (q - 14 * f)) else A q
theorem fa_cp0 (f : Nat) (A : Nat → Int32) : fa_cp f 0 A = A := by
  funext q
  exact if_neg (by omega)
theorem fa_cpS (f i : Nat) (A : Nat → Int32) (hf : f < 4) (hi : i < 14) : upd (fa_cp f i A) (14 * f + i) (A (56 + i)) = fa_cp f (i + 1) A := by
  funext q
  unfold upd fa_cp
  by_cases h : q = 14 * f + i
  · rw [if_pos h, if_pos (by omega)]
    congr 1; omega
  · rw [if_neg h]
    by_cases h2 : 14 * f ≤ q ∧ q < 14 * f + i
    · rw [if_pos h2, if_pos (by omega)]
    · rw [if_neg h2, if_neg (by omega)]
theorem fa_cpD (f i j : Nat) (A : Nat → Int32) (hf : f < 4) (hi : i ≤ 14) : fa_cp f i A (56 + j) = A (56 + j) := if_neg (by omega)
theorem xq_cpL_kind {post : SX → Prop} (f : Nat) (hf : f < 4) (H : post (f_stacked, f_made, f_open, f_valueCount, f_enteredInAll, f_tired, fa_cp f 14 a_kind, a_number, a_elsePlace, a_jumpPlace, a_bodySize, a_stack, a_openFunction, a_openFirst, a_openSecond, a_openPlace, a_values, a_entered)) : ∀ d i : Nat, i + d = 14 → wX_copyDraftRow__kind_8 post (nI (14 * f)) (d + 1) (nI i) f_stacked f_made f_open f_valueCount f_enteredInAll f_tired (fa_cp f i a_kind) a_number a_elsePlace a_jumpPlace a_bodySize a_stack a_openFunction a_openFirst a_openSecond a_openPlace a_values a_entered := by
  intro d
  induction d with
  | zero =>
    intro i hi
    have e : i = 14 := by omega
    subst e
    exact br_t (nI_le (Nat.le_refl 14) (by decide)) H
  | succ d ih =>
    intro i hi
    refine br_f (nI_ge (b := 14) (by omega) (by decide)) ?_
    refine xq_at_kind (56 + i) (nI_add 56 i) (by omega) (fa_cpD f i i a_kind hf (by omega)) ?_
    refine xq_put_kind (14 * f + i) (nI_add (14 * f) i) (by omega) ?_
    rw [fa_cpS f i a_kind hf (by omega)]
    exact nm_r (nI_1 i) (ih (i + 1) (by omega))
theorem xq_cp_kind {post : SX → Prop} (f : Nat) (hf : f < 4) (H : post (f_stacked, f_made, f_open, f_valueCount, f_enteredInAll, f_tired, fa_cp f 14 a_kind, a_number, a_elsePlace, a_jumpPlace, a_bodySize, a_stack, a_openFunction, a_openFirst, a_openSecond, a_openPlace, a_values, a_entered)) : wpX_copyDraftRow__kind post (f_stacked, f_made, f_open, f_valueCount, f_enteredInAll, f_tired, a_kind, a_number, a_elsePlace, a_jumpPlace, a_bodySize, a_stack, a_openFunction, a_openFirst, a_openSecond, a_openPlace, a_values, a_entered) (nI f) := by
  refine nm_r (e' := nI (14 * f)) (by show nI f * nI 14 = _; rw [pk_mul, Nat.mul_comm]) ?_
  have h := xq_cpL_kind f hf H 14 0 rfl
  rw [fa_cp0] at h
  exact ⟨15, h⟩
theorem xq_cpL_number {post : SX → Prop} (f : Nat) (hf : f < 4) (H : post (f_stacked, f_made, f_open, f_valueCount, f_enteredInAll, f_tired, a_kind, fa_cp f 14 a_number, a_elsePlace, a_jumpPlace, a_bodySize, a_stack, a_openFunction, a_openFirst, a_openSecond, a_openPlace, a_values, a_entered)) : ∀ d i : Nat, i + d = 14 → wX_copyDraftRow__number_8 post (nI (14 * f)) (d + 1) (nI i) f_stacked f_made f_open f_valueCount f_enteredInAll f_tired a_kind (fa_cp f i a_number) a_elsePlace a_jumpPlace a_bodySize a_stack a_openFunction a_openFirst a_openSecond a_openPlace a_values a_entered := by
  intro d
  induction d with
  | zero =>
    intro i hi
    have e : i = 14 := by omega
    subst e
    exact br_t (nI_le (Nat.le_refl 14) (by decide)) H
  | succ d ih =>
    intro i hi
    refine br_f (nI_ge (b := 14) (by omega) (by decide)) ?_
    refine xq_at_number (56 + i) (nI_add 56 i) (by omega) (fa_cpD f i i a_number hf (by omega)) ?_
    refine xq_put_number (14 * f + i) (nI_add (14 * f) i) (by omega) ?_
    rw [fa_cpS f i a_number hf (by omega)]
    exact nm_r (nI_1 i) (ih (i + 1) (by omega))
theorem xq_cp_number {post : SX → Prop} (f : Nat) (hf : f < 4) (H : post (f_stacked, f_made, f_open, f_valueCount, f_enteredInAll, f_tired, a_kind, fa_cp f 14 a_number, a_elsePlace, a_jumpPlace, a_bodySize, a_stack, a_openFunction, a_openFirst, a_openSecond, a_openPlace, a_values, a_entered)) : wpX_copyDraftRow__number post (f_stacked, f_made, f_open, f_valueCount, f_enteredInAll, f_tired, a_kind, a_number, a_elsePlace, a_jumpPlace, a_bodySize, a_stack, a_openFunction, a_openFirst, a_openSecond, a_openPlace, a_values, a_entered) (nI f) := by
  refine nm_r (e' := nI (14 * f)) (by show nI f * nI 14 = _; rw [pk_mul, Nat.mul_comm]) ?_
  have h := xq_cpL_number f hf H 14 0 rfl
  rw [fa_cp0] at h
  exact ⟨15, h⟩
theorem xq_cpL_elsePlace {post : SX → Prop} (f : Nat) (hf : f < 4) (H : post (f_stacked, f_made, f_open, f_valueCount, f_enteredInAll, f_tired, a_kind, a_number, fa_cp f 14 a_elsePlace, a_jumpPlace, a_bodySize, a_stack, a_openFunction, a_openFirst, a_openSecond, a_openPlace, a_values, a_entered)) : ∀ d i : Nat, i + d = 14 → wX_copyDraftRow__elsePlace_8 post (nI (14 * f)) (d + 1) (nI i) f_stacked f_made f_open f_valueCount f_enteredInAll f_tired a_kind a_number (fa_cp f i a_elsePlace) a_jumpPlace a_bodySize a_stack a_openFunction a_openFirst a_openSecond a_openPlace a_values a_entered := by
  intro d
  induction d with
  | zero =>
    intro i hi
    have e : i = 14 := by omega
    subst e
    exact br_t (nI_le (Nat.le_refl 14) (by decide)) H
  | succ d ih =>
    intro i hi
    refine br_f (nI_ge (b := 14) (by omega) (by decide)) ?_
    refine xq_at_elsePlace (56 + i) (nI_add 56 i) (by omega) (fa_cpD f i i a_elsePlace hf (by omega)) ?_
    refine xq_put_elsePlace (14 * f + i) (nI_add (14 * f) i) (by omega) ?_
    rw [fa_cpS f i a_elsePlace hf (by omega)]
    exact nm_r (nI_1 i) (ih (i + 1) (by omega))
theorem xq_cp_elsePlace {post : SX → Prop} (f : Nat) (hf : f < 4) (H : post (f_stacked, f_made, f_open, f_valueCount, f_enteredInAll, f_tired, a_kind, a_number, fa_cp f 14 a_elsePlace, a_jumpPlace, a_bodySize, a_stack, a_openFunction, a_openFirst, a_openSecond, a_openPlace, a_values, a_entered)) : wpX_copyDraftRow__elsePlace post (f_stacked, f_made, f_open, f_valueCount, f_enteredInAll, f_tired, a_kind, a_number, a_elsePlace, a_jumpPlace, a_bodySize, a_stack, a_openFunction, a_openFirst, a_openSecond, a_openPlace, a_values, a_entered) (nI f) := by
  refine nm_r (e' := nI (14 * f)) (by show nI f * nI 14 = _; rw [pk_mul, Nat.mul_comm]) ?_
  have h := xq_cpL_elsePlace f hf H 14 0 rfl
  rw [fa_cp0] at h
  exact ⟨15, h⟩
theorem xq_cpL_jumpPlace {post : SX → Prop} (f : Nat) (hf : f < 4) (H : post (f_stacked, f_made, f_open, f_valueCount, f_enteredInAll, f_tired, a_kind, a_number, a_elsePlace, fa_cp f 14 a_jumpPlace, a_bodySize, a_stack, a_openFunction, a_openFirst, a_openSecond, a_openPlace, a_values, a_entered)) : ∀ d i : Nat, i + d = 14 → wX_copyDraftRow__jumpPlace_8 post (nI (14 * f)) (d + 1) (nI i) f_stacked f_made f_open f_valueCount f_enteredInAll f_tired a_kind a_number a_elsePlace (fa_cp f i a_jumpPlace) a_bodySize a_stack a_openFunction a_openFirst a_openSecond a_openPlace a_values a_entered := by
  intro d
  induction d with
  | zero =>
    intro i hi
    have e : i = 14 := by omega
    subst e
    exact br_t (nI_le (Nat.le_refl 14) (by decide)) H
  | succ d ih =>
    intro i hi
    refine br_f (nI_ge (b := 14) (by omega) (by decide)) ?_
    refine xq_at_jumpPlace (56 + i) (nI_add 56 i) (by omega) (fa_cpD f i i a_jumpPlace hf (by omega)) ?_
    refine xq_put_jumpPlace (14 * f + i) (nI_add (14 * f) i) (by omega) ?_
    rw [fa_cpS f i a_jumpPlace hf (by omega)]
    exact nm_r (nI_1 i) (ih (i + 1) (by omega))
theorem xq_cp_jumpPlace {post : SX → Prop} (f : Nat) (hf : f < 4) (H : post (f_stacked, f_made, f_open, f_valueCount, f_enteredInAll, f_tired, a_kind, a_number, a_elsePlace, fa_cp f 14 a_jumpPlace, a_bodySize, a_stack, a_openFunction, a_openFirst, a_openSecond, a_openPlace, a_values, a_entered)) : wpX_copyDraftRow__jumpPlace post (f_stacked, f_made, f_open, f_valueCount, f_enteredInAll, f_tired, a_kind, a_number, a_elsePlace, a_jumpPlace, a_bodySize, a_stack, a_openFunction, a_openFirst, a_openSecond, a_openPlace, a_values, a_entered) (nI f) := by
  refine nm_r (e' := nI (14 * f)) (by show nI f * nI 14 = _; rw [pk_mul, Nat.mul_comm]) ?_
  have h := xq_cpL_jumpPlace f hf H 14 0 rfl
  rw [fa_cp0] at h
  exact ⟨15, h⟩
theorem xq_cpTo {post : SX → Prop} (f : Nat) (hf : f < 4) (H : post (f_stacked, f_made, f_open, f_valueCount, f_enteredInAll, f_tired, fa_cp f 14 a_kind, fa_cp f 14 a_number, fa_cp f 14 a_elsePlace, fa_cp f 14 a_jumpPlace, upd a_bodySize f f_made, a_stack, a_openFunction, a_openFirst, a_openSecond, a_openPlace, a_values, a_entered)) : wpX_copyDraftTo post (f_stacked, f_made, f_open, f_valueCount, f_enteredInAll, f_tired, a_kind, a_number, a_elsePlace, a_jumpPlace, a_bodySize, a_stack, a_openFunction, a_openFirst, a_openSecond, a_openPlace, a_values, a_entered) (nI f) := by
  refine xq_cp_kind f hf ?_
  refine xq_cp_number f hf ?_
  refine xq_cp_elsePlace f hf ?_
  refine xq_cp_jumpPlace f hf ?_
  exact xq_put_bodySize f rfl hf H
theorem xq_isF {post : Int32 → Prop} {x : Int32} (h0 : (x < 0 ∨ nI 4 ≤ x) → post 0) (h1 : ∀ f, f < 4 → x = nI f → post 1) : wpX_isFunction post (f_stacked, f_made, f_open, f_valueCount, f_enteredInAll, f_tired, a_kind, a_number, a_elsePlace, a_jumpPlace, a_bodySize, a_stack, a_openFunction, a_openFirst, a_openSecond, a_openPlace, a_values, a_entered) x := by
  rcases pk_ix x (n := 4) (by decide) with h | h | ⟨j, hj, h⟩
  · exact br_t h (h0 (Or.inl h))
  · exact br_c (fun z => h0 (Or.inl z)) (fun _ => br_t h (h0 (Or.inr h)))
  · subst h
    exact br_f (nI_pos (by omega)) (br_f (nI_ge hj (by decide)) (h1 j hj rfl))
theorem xq_enter {post : SX → Prop} {x p1 p2 : Int32} (n t g : Nat) (hx : x = nI g) (hn : n < 60) (ht : t < 60) (hg : g < 4)
    (H : post (f_stacked, f_made, nI (t + 1), f_valueCount, nI (n + 1), f_tired, a_kind, a_number, a_elsePlace, a_jumpPlace, a_bodySize, a_stack, upd a_openFunction t (nI g), upd a_openFirst t p1, upd a_openSecond t p2, upd a_openPlace t (nI 0), a_values, upd a_entered g (a_entered g + 1))) :
    wpX_enter post (f_stacked, f_made, nI t, f_valueCount, nI n, f_tired, a_kind, a_number, a_elsePlace, a_jumpPlace, a_bodySize, a_stack, a_openFunction, a_openFirst, a_openSecond, a_openPlace, a_values, a_entered) x p1 p2 := by
  subst hx
  refine br_t (nI_lt hn (by decide)) ?_
  refine xq_at_entered g rfl hg rfl ?_
  refine xq_put_entered g rfl hg ?_
  refine nm_r (e' := nI (n + 1)) (nI_1 n) ?_
  refine xq_put_openFunction t rfl ht ?_
  refine xq_put_openFirst t rfl ht ?_
  refine xq_put_openSecond t rfl ht ?_
  refine xq_put_openPlace t rfl ht ?_
  exact nm_r (e' := nI (t + 1)) (nI_1 t) H
theorem xq_enterT {post : SX → Prop} {x p1 p2 : Int32} (H : post (f_stacked, f_made, f_open, f_valueCount, nI 60, 1, a_kind, a_number, a_elsePlace, a_jumpPlace, a_bodySize, a_stack, a_openFunction, a_openFirst, a_openSecond, a_openPlace, a_values, a_entered)) : wpX_enter post (f_stacked, f_made, f_open, f_valueCount, nI 60, f_tired, a_kind, a_number, a_elsePlace, a_jumpPlace, a_bodySize, a_stack, a_openFunction, a_openFirst, a_openSecond, a_openPlace, a_values, a_entered) x p1 p2 :=
  br_f (nI_nlt (Nat.le_refl 60) (by decide)) H
theorem xq_pushValue {post : SX → Prop} {x : Int32} (q : Nat) (hq : q < 840) (H : post (f_stacked, f_made, f_open, nI (q + 1), f_enteredInAll, f_tired, a_kind, a_number, a_elsePlace, a_jumpPlace, a_bodySize, a_stack, a_openFunction, a_openFirst, a_openSecond, a_openPlace, upd a_values q x, a_entered)) : wpX_pushValue post (f_stacked, f_made, f_open, nI q, f_enteredInAll, f_tired, a_kind, a_number, a_elsePlace, a_jumpPlace, a_bodySize, a_stack, a_openFunction, a_openFirst, a_openSecond, a_openPlace, a_values, a_entered) x := by
  unfold wpX_pushValue
  refine xq_put_values q rfl hq ?_
  exact nm_r (e' := nI (q + 1)) (nI_1 q) H
theorem xq_combined {post : Int32 → Prop} {x y z : Int32} (k : Nat) (hk : k < 4) (hz : z = nI k) (H : post (fa_comb k x y)) : wpX_combined post (f_stacked, f_made, f_open, f_valueCount, f_enteredInAll, f_tired, a_kind, a_number, a_elsePlace, a_jumpPlace, a_bodySize, a_stack, a_openFunction, a_openFirst, a_openSecond, a_openPlace, a_values, a_entered) z x y := by
  subst hz
  refine br_f (nI_pos (by omega)) (br_f (nI_nlt (a := 3) (b := k) (by omega) (by decide)) ?_)
  unfold fa_comb at H
  by_cases h0 : k = 0
  · rw [if_pos h0] at H; subst h0
    exact br_t rfl H
  rw [if_neg h0] at H
  refine br_f (nI_ne0 (by omega) (by omega)) ?_
  by_cases h1 : k = 1
  · rw [if_pos h1] at H; subst h1
    exact br_t rfl H
  rw [if_neg h1] at H
  refine br_f (fun z => h1 ((nI_eq (by omega) (by decide)).mp z)) ?_
  by_cases h2 : k = 2
  · rw [if_pos h2] at H; subst h2
    exact br_t rfl H
  rw [if_neg h2] at H
  refine br_f (fun z => h2 ((nI_eq (by omega) (by decide)).mp z)) ?_
  have h3 : k = 3 := by omega
  subst h3
  refine br_t rfl ?_
  by_cases hxy : x < y
  · rw [if_pos hxy] at H
    exact br_f (Int32.not_le.mpr hxy) H
  · rw [if_neg hxy] at H
    exact br_t (Int32.not_lt.mp hxy) H
theorem xq_goOn {post : SX → Prop} {v : Int32} (t g p e ju q : Nat) (ht : t < 60) (hg : a_openFunction t = nI g) (hp : a_openPlace t = nI p) (hj : 14 * g + p < 70)
    (he : a_elsePlace (14 * g + p) = nI e) (hju : a_jumpPlace (14 * g + p) = nI ju) (he' : e < 99) (hju' : ju < 99) (hq : q < 840) (hv : a_values q = v)
    (H : post (f_stacked, f_made, nI (t + 1), nI (if e = 0 then q + 1 else q), f_enteredInAll, f_tired, a_kind, a_number, a_elsePlace, a_jumpPlace, a_bodySize, a_stack, a_openFunction, a_openFirst, a_openSecond, upd a_openPlace t (nI (if e = 0 then (if ju = 0 then p + 1 else ju) else (if v = 0 then e else p + 1))), a_values, a_entered)) :
    wpX_goOn post (f_stacked, f_made, nI (t + 1), nI (q + 1), f_enteredInAll, f_tired, a_kind, a_number, a_elsePlace, a_jumpPlace, a_bodySize, a_stack, a_openFunction, a_openFirst, a_openSecond, a_openPlace, a_values, a_entered) := by
  unfold wpX_goOn
  refine xq_at_openFunction t (nI_pred t) ht hg ?_
  refine xq_at_openPlace t (nI_pred t) ht hp ?_
  refine nm_r (e' := nI (14 * g + p)) (xq_ix g p) ?_
  refine xq_at_elsePlace (14 * g + p) rfl hj he ?_
  refine xq_at_jumpPlace (14 * g + p) rfl hj hju ?_
  refine nm_r (e' := nI (p + 1)) (nI_1 p) ?_
  by_cases e0 : e = 0
  · subst e0
    rw [if_pos rfl, if_pos rfl] at H
    refine br_t rfl ?_
    by_cases j0 : ju = 0
    · subst j0
      rw [if_pos rfl] at H
      refine br_t rfl ?_
      exact xq_put_openPlace t (nI_pred t) ht H
    · rw [if_neg j0] at H
      refine br_f (nI_ne0 (by omega) (by omega)) ?_
      exact xq_put_openPlace t (nI_pred t) ht H
  · rw [if_neg e0, if_neg e0] at H
    refine br_f (nI_ne0 (by omega) (by omega)) ?_
    refine nm_r (e' := nI q) (nI_pred q) ?_
    refine xq_at_values q rfl hq hv ?_
    by_cases v0 : v = 0
    · rw [if_pos v0] at H
      refine br_t v0 ?_
      exact xq_put_openPlace t (nI_pred t) ht H
    · rw [if_neg v0] at H
      refine br_f v0 ?_
      exact xq_put_openPlace t (nI_pred t) ht H
def fa_z4 (E : Nat → Int32) : Nat → Int32 := upd (upd (upd (upd E 0 0) 1 0) 2 0) 3 0
theorem fa_z4e (E : Nat → Int32) (g : Nat) (h : g < 4) : fa_z4 E g = 0 := by
  unfold fa_z4 upd
  by_cases h3 : g = 3
  · rw [if_pos h3]
  rw [if_neg h3]
  by_cases h2 : g = 2
  · rw [if_pos h2]
  rw [if_neg h2]
  by_cases h1 : g = 1
  · rw [if_pos h1]
  rw [if_neg h1, if_pos (by omega)]
theorem xq_startRun {post : SX → Prop} (H : post (f_stacked, f_made, 0, 0, 0, 0, a_kind, a_number, a_elsePlace, a_jumpPlace, a_bodySize, a_stack, a_openFunction, a_openFirst, a_openSecond, a_openPlace, a_values, fa_z4 a_entered)) : wpX_startRun post (f_stacked, f_made, f_open, f_valueCount, f_enteredInAll, f_tired, a_kind, a_number, a_elsePlace, a_jumpPlace, a_bodySize, a_stack, a_openFunction, a_openFirst, a_openSecond, a_openPlace, a_values, a_entered) := by
  refine ⟨5, ?_⟩
  refine br_f (by decide) ⟨vp_in_iff.mpr (by decide), nm_r (e' := upd a_entered 0 0) rfl (nm_r (e' := 1) rfl ?_)⟩
  refine br_f (by decide) ⟨vp_in_iff.mpr (by decide), nm_r (e' := upd (upd a_entered 0 0) 1 0) rfl (nm_r (e' := 2) rfl ?_)⟩
  refine br_f (by decide) ⟨vp_in_iff.mpr (by decide), nm_r (e' := upd (upd (upd a_entered 0 0) 1 0) 2 0) rfl (nm_r (e' := 3) rfl ?_)⟩
  refine br_f (by decide) ⟨vp_in_iff.mpr (by decide), nm_r (e' := fa_z4 a_entered) rfl (nm_r (e' := 4) rfl ?_)⟩
  exact br_t (by decide) H
end
