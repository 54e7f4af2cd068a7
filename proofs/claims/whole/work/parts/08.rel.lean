/-- row f of a table of rows replaced -/
def fa_r (r : Nat → Nat → Nat) (f : Nat) (row : Nat → Nat) : Nat → Nat → Nat := fun g => if g = f then row else r g
theorem fa_rs {r : Nat → Nat → Nat} {f : Nat} {row : Nat → Nat} : fa_r r f row f = row := if_pos rfl
theorem fa_rn {r : Nat → Nat → Nat} {f g : Nat} {row : Nat → Nat} (h : g ≠ f) : fa_r r f row g = r g := if_neg h
theorem fa_Rput {A : Nat → Int32} {r : Nat → Nat → Nat} {m v : Nat} (h : xq_R A r) (hm : m < 14) (hv : v < 99) : xq_R (upd A (56 + m) (nI v)) (fa_r r 4 (fa_u (r 4) m v)) := by
  intro g p hg hp
  by_cases e : g = 4
  · subst e
    rw [fa_rs]
    by_cases e2 : p = m
    · subst e2
      rw [fa_us, show 14 * 4 + p = 56 + p from rfl, pk_us]
      exact ⟨rfl, hv⟩
    · rw [fa_un e2, pk_un (by omega)]
      exact h 4 p hg hp
  · rw [fa_rn e, pk_un (by omega)]
    exact h g p hg hp
theorem fa_Rcp {A : Nat → Int32} {r : Nat → Nat → Nat} {f : Nat} (h : xq_R A r) (hf : f < 4) : xq_R (fa_cp f 14 A) (fa_r r f (r 4)) := by
  intro g p hg hp
  by_cases e : g = f
  · subst e
    rw [fa_rs]
    have e3 : fa_cp g 14 A (14 * g + p) = A (14 * 4 + p) := by
      unfold fa_cp
      rw [if_pos (by omega)]
      exact congrArg A (by omega)
    rw [e3]
    exact h 4 p (by omega) hp
  · rw [fa_rn e]
    have e3 : fa_cp f 14 A (14 * g + p) = A (14 * g + p) := if_neg (by omega)
    rw [e3]
    exact h g p hg hp
/-- what ties the two states -/
def fa_C (kd st el ju cc cx cy : Nat → Nat → Nat) (sk sz : Nat → Nat) (w m : Nat) (a_kind a_number a_elsePlace a_jumpPlace a_bodySize a_stack : Nat → Int32) (a_kinds a_parts a_numbers a_roots b_stack : Nat → Int32) : Prop :=
  xq_R a_kind kd ∧ xq_R a_elsePlace el ∧ xq_R a_jumpPlace ju ∧ (∀ g, g < 4 → a_bodySize g = nI (sz g) ∧ sz g ≤ 14) ∧
  (∀ i, i < w → a_stack i = nI (sk i) ∧ b_stack i = nI (56 + sk i)) ∧
  (∀ g, g < 4 → fa_Bd (kd g) (st g) (el g) (ju g) (cc g) (cx g) (cy g) (sz g)) ∧
  fa_D (kd 4) (st 4) (el 4) (ju 4) (cc 4) (cx 4) (cy 4) sk w m ∧
  (∀ g, g < 4 → ∀ p, p < sz g → yq_R a_kinds a_parts a_numbers a_number g (kd g) (cc g) (cx g) (cy g) p) ∧
  (∀ g, g < 4 → sz g ≤ 14 ∧ a_roots g = nI (14 * g + (sz g - 1))) ∧
  (∀ p, p < m → yq_R a_kinds a_parts a_numbers a_number 4 (kd 4) (cc 4) (cx 4) (cy 4) p)
def i_Rel (k : Nat) (u : SX) (v : SY) : Prop :=
  ∃ (kd st el ju cc cx cy : Nat → Nat → Nat) (sk sz : Nat → Nat) (w m : Nat) (f_open f_valueCount f_enteredInAll f_tired : Int32) (a_kind a_number a_elsePlace a_jumpPlace a_bodySize a_stack a_openFunction a_openFirst a_openSecond a_openPlace a_values a_entered : Nat → Int32)
    (f_waiting f_held f_called g_tired : Int32) (a_kinds a_parts a_numbers a_roots b_stack a_waits b_values a_firsts a_seconds a_counts : Nat → Int32),
    u = (nI w, nI m, f_open, f_valueCount, f_enteredInAll, f_tired, a_kind, a_number, a_elsePlace, a_jumpPlace, a_bodySize, a_stack, a_openFunction, a_openFirst, a_openSecond, a_openPlace, a_values, a_entered) ∧ v = (nI m, nI w, f_waiting, f_held, f_called, g_tired, a_kinds, a_parts, a_numbers, a_roots, b_stack, a_waits, b_values, a_firsts, a_seconds, a_counts) ∧ fa_C kd st el ju cc cx cy sk sz w m a_kind a_number a_elsePlace a_jumpPlace a_bodySize a_stack a_kinds a_parts a_numbers a_roots b_stack
theorem i_up {k : Nat} {u : SX} {v : SY} (h : i_Rel k u v) : i_Rel (k + 5) u v := h
theorem yq_Rc {K P N num K' P' N' num' : Nat → Int32} {g : Nat} {k cc cx cy k' cc' cx' cy' : Nat → Nat} {p : Nat} (h : yq_R K P N num g k cc cx cy p)
    (e1 : K' (14 * g + p) = K (14 * g + p)) (e2 : N' (14 * g + p) = N (14 * g + p)) (e3 : num' (14 * g + p) = num (14 * g + p))
    (e4 : P' (3 * (14 * g + p)) = P (3 * (14 * g + p))) (e5 : P' (3 * (14 * g + p) + 1) = P (3 * (14 * g + p) + 1)) (e6 : P' (3 * (14 * g + p) + 2) = P (3 * (14 * g + p) + 2))
    (k1 : k' p = k p) (c1 : cc' p = cc p) (c2 : cx' p = cx p) (c3 : cy' p = cy p) : yq_R K' P' N' num' g k' cc' cx' cy' p := by
  unfold yq_R
  rw [e1, e2, e3, e4, e5, e6, k1, c1, c2, c3]
  exact h
section
variable {kd st el ju cc cx cy : Nat → Nat → Nat} {sk sz : Nat → Nat} {w m : Nat} {a_kind a_number a_elsePlace a_jumpPlace a_bodySize a_stack : Nat → Int32} {a_kinds a_parts a_numbers a_roots b_stack : Nat → Int32}
theorem fa_Cw (C : fa_C kd st el ju cc cx cy sk sz w m a_kind a_number a_elsePlace a_jumpPlace a_bodySize a_stack a_kinds a_parts a_numbers a_roots b_stack) : w ≤ m ∧ m ≤ 14 := by
  obtain ⟨h1, h2, h3, h4, h5, h6, h7, h8⟩ := C
  exact ⟨fa_Dw h7, h7.1⟩
theorem fa_C0 (C : fa_C kd st el ju cc cx cy sk sz w m a_kind a_number a_elsePlace a_jumpPlace a_bodySize a_stack a_kinds a_parts a_numbers a_roots b_stack) : fa_C kd st el ju cc cx cy sk sz 0 0 a_kind a_number a_elsePlace a_jumpPlace a_bodySize a_stack a_kinds a_parts a_numbers a_roots b_stack := by
  obtain ⟨h1, h2, h3, h4, h5, h6, h7, h8, h9, h10⟩ := C
  exact ⟨h1, h2, h3, h4, fun _ h => absurd h (Nat.not_lt_zero _), h6, fa_D0 _ _ _ _ _ _ _ _, h8, h9, fun _ h => absurd h (Nat.not_lt_zero _)⟩
/-- what every push shares: rows below four are as they were -/
theorem fa_Cpush {w' kv : Nat} {R1 R2 R5 R6 R7 : Nat → Nat} {el' ju' : Nat → Nat → Nat} {nx ny nk : Int32} {E J P : Nat → Int32} (C : fa_C kd st el ju cc cx cy sk sz w m a_kind a_number a_elsePlace a_jumpPlace a_bodySize a_stack a_kinds a_parts a_numbers a_roots b_stack) (hm : m < 14) (hw : w' ≤ w)
    (hkv : kv < 99) (hR1 : R1 = fa_u (kd 4) m kv) (hE : xq_R E el') (hJ : xq_R J ju') (hel : ∀ g, g < 4 → el' g = el g) (hju : ∀ g, g < 4 → ju' g = ju g)
    (hP : ∀ q, q < 168 + 3 * m → P q = a_parts q)
    (hcc : ∀ p, p < m → R5 p = cc 4 p) (hcx : ∀ p, p < m → R6 p = cx 4 p) (hcy : ∀ p, p < m → R7 p = cy 4 p)
    (hD : fa_D R1 R2 (el' 4) (ju' 4) R5 R6 R7 (fa_u sk w' m) (w' + 1) (m + 1))
    (hY : yq_R (upd a_kinds (56 + m) nk) P (upd a_numbers (56 + m) ny) (upd a_number (56 + m) nx) 4 R1 R5 R6 R7 m) :
    fa_C (fa_r kd 4 R1) (fa_r st 4 R2) el' ju' (fa_r cc 4 R5) (fa_r cx 4 R6) (fa_r cy 4 R7) (fa_u sk w' m) sz (w' + 1) (m + 1)
      (upd a_kind (56 + m) (nI kv)) (upd a_number (56 + m) nx) E J a_bodySize (upd a_stack w' (nI m)) (upd a_kinds (56 + m) nk) P (upd a_numbers (56 + m) ny) a_roots (upd b_stack w' (nI (56 + m))) := by
  obtain ⟨h1, h2, h3, h4, h5, h6, h7, h8, h9, h10⟩ := C
  refine ⟨by rw [hR1]; exact fa_Rput h1 hm hkv, hE, hJ, h4, ?_, ?_, ?_, ?_, h9, ?_⟩
  · intro i hi
    by_cases e : i = w'
    · subst e
      rw [pk_us, pk_us, fa_us]; exact ⟨rfl, rfl⟩
    · rw [pk_un e, pk_un e, fa_un e]
      exact h5 i (by omega)
  · intro g hg
    rw [fa_rn (by omega), fa_rn (by omega), hel g hg, hju g hg, fa_rn (by omega), fa_rn (by omega), fa_rn (by omega)]
    exact h6 g hg
  · rw [fa_rs, fa_rs, fa_rs, fa_rs, fa_rs]
    exact hD
  · intro g hg p hp
    have := (h4 g hg).2
    rw [fa_rn (by omega), fa_rn (by omega), fa_rn (by omega), fa_rn (by omega)]
    exact yq_Rc (h8 g hg p hp) (pk_un (by omega)) (pk_un (by omega)) (pk_un (by omega)) (hP _ (by omega)) (hP _ (by omega)) (hP _ (by omega)) rfl rfl rfl rfl
  · intro p hp
    rw [fa_rs, fa_rs, fa_rs, fa_rs]
    by_cases e : p = m
    · subst e; exact hY
    · have hp' : p < m := by omega
      exact yq_Rc (h10 p hp') (pk_un (by omega)) (pk_un (by omega)) (pk_un (by omega)) (hP _ (by omega)) (hP _ (by omega)) (hP _ (by omega)) (by rw [hR1]; exact fa_un e) (hcc p hp') (hcx p hp') (hcy p hp')
theorem fa_Cleaf {kv : Nat} {nx ny nk : Int32} (C : fa_C kd st el ju cc cx cy sk sz w m a_kind a_number a_elsePlace a_jumpPlace a_bodySize a_stack a_kinds a_parts a_numbers a_roots b_stack) (hm : m < 14) (h8 : 8 ≤ kv) (h10 : kv ≤ 10)
    (hY : (kv = 8 → nk = nI 9 ∧ ny = nx) ∧ (kv = 9 → nk = nI 10 ∧ ny = nI 0) ∧ (kv = 10 → nk = nI 10 ∧ ny = nI 1)) :
    fa_C (fa_r kd 4 (fa_u (kd 4) m kv)) (fa_r st 4 (fa_u (st 4) m m)) (fa_r el 4 (fa_u (el 4) m 0)) (fa_r ju 4 (fa_u (ju 4) m 0)) (fa_r cc 4 (fa_u (cc 4) m 0)) (fa_r cx 4 (fa_u (cx 4) m 0)) (fa_r cy 4 (fa_u (cy 4) m 0)) (fa_u sk w m) sz (w + 1) (m + 1)
      (upd a_kind (56 + m) (nI kv)) (upd a_number (56 + m) nx) (upd a_elsePlace (56 + m) 0) (upd a_jumpPlace (56 + m) 0) a_bodySize (upd a_stack w (nI m)) (upd a_kinds (56 + m) nk) a_parts (upd a_numbers (56 + m) ny) a_roots (upd b_stack w (nI (56 + m))) := by
  refine fa_Cpush C hm (Nat.le_refl w) (by omega) rfl (fa_Rput (v := 0) C.2.1 hm (by decide)) (fa_Rput (v := 0) C.2.2.1 hm (by decide)) (fun g hg => fa_rn (by omega)) (fun g hg => fa_rn (by omega)) (fun _ _ => rfl)
    (fun p hp => fa_un (by omega)) (fun p hp => fa_un (by omega)) (fun p hp => fa_un (by omega)) ?_ ?_
  · rw [fa_rs, fa_rs]
    exact fa_Dleaf C.2.2.2.2.2.2.1 hm h8 h10 0 0 0
  · unfold yq_R
    rw [fa_us, show 14 * 4 + m = 56 + m from rfl, pk_us, pk_us, pk_us]
    exact ⟨hY.1, hY.2.1, hY.2.2, fun h => by omega, fun h => by omega⟩
theorem fa_Ctwo {kv : Nat} (C : fa_C kd st el ju cc cx cy sk sz (w + 2) m a_kind a_number a_elsePlace a_jumpPlace a_bodySize a_stack a_kinds a_parts a_numbers a_roots b_stack) (hm : m < 14) (h7 : kv ≤ 7) :
    fa_C (fa_r kd 4 (fa_u (kd 4) m kv)) (fa_r st 4 (fa_u (st 4) m (st 4 (sk w)))) (fa_r el 4 (fa_u (el 4) m 0)) (fa_r ju 4 (fa_u (ju 4) m 0)) (fa_r cc 4 (fa_u (cc 4) m 0)) (fa_r cx 4 (fa_u (cx 4) m (sk w))) (fa_r cy 4 (fa_u (cy 4) m (sk (w + 1)))) (fa_u sk w m) sz (w + 1) (m + 1)
      (upd a_kind (56 + m) (nI kv)) (upd a_number (56 + m) 0) (upd a_elsePlace (56 + m) 0) (upd a_jumpPlace (56 + m) 0) a_bodySize (upd a_stack w (nI m)) (upd a_kinds (56 + m) (nI kv)) (upd (upd a_parts (3 * (56 + m)) (b_stack w)) (3 * (56 + m) + 1) (b_stack (w + 1))) (upd a_numbers (56 + m) 0) a_roots (upd b_stack w (nI (56 + m))) := by
  have s0 := (C.2.2.2.2.1 w (by omega)).2
  have s1 := (C.2.2.2.2.1 (w + 1) (by omega)).2
  refine fa_Cpush C hm (by omega) (by omega) rfl (fa_Rput (v := 0) C.2.1 hm (by decide)) (fa_Rput (v := 0) C.2.2.1 hm (by decide)) (fun g hg => fa_rn (by omega)) (fun g hg => fa_rn (by omega)) (fun q hq => (pk_un (by omega)).trans (pk_un (by omega)))
    (fun p hp => fa_un (by omega)) (fun p hp => fa_un (by omega)) (fun p hp => fa_un (by omega)) ?_ ?_
  · rw [fa_rs, fa_rs]
    exact fa_Dtwo C.2.2.2.2.2.2.1 hm h7
  · unfold yq_R
    rw [fa_us, fa_us, fa_us, show 14 * 4 + m = 56 + m from rfl, pk_us, pk_us, pk_us, pk_us, pk_un (show 3 * (56 + m) ≠ 3 * (56 + m) + 1 by omega), pk_us, s0, s1]
    exact ⟨fun h => by omega, fun h => by omega, fun h => by omega, fun _ => ⟨rfl, rfl, rfl⟩, fun h => by omega⟩
theorem fa_Cchoose (C : fa_C kd st el ju cc cx cy sk sz (w + 3) m a_kind a_number a_elsePlace a_jumpPlace a_bodySize a_stack a_kinds a_parts a_numbers a_roots b_stack) (hm : m < 14) :
    fa_C (fa_r kd 4 (fa_u (kd 4) m 11)) (fa_r st 4 (fa_u (st 4) m (st 4 (sk w)))) (fa_r (fa_r el 4 (fa_u (el 4) (sk w) (sk (w + 1) + 1))) 4 (fa_u (fa_r el 4 (fa_u (el 4) (sk w) (sk (w + 1) + 1)) 4) m 0)) (fa_r (fa_r ju 4 (fa_u (ju 4) (sk (w + 1)) m)) 4 (fa_u (fa_r ju 4 (fa_u (ju 4) (sk (w + 1)) m) 4) m 0)) (fa_r cc 4 (fa_u (cc 4) m (sk w))) (fa_r cx 4 (fa_u (cx 4) m (sk (w + 1)))) (fa_r cy 4 (fa_u (cy 4) m (sk (w + 2)))) (fa_u sk w m) sz (w + 1) (m + 1)
      (upd a_kind (56 + m) (nI 11)) (upd a_number (56 + m) 0) (upd (upd a_elsePlace (56 + sk w) (nI (sk (w + 1) + 1))) (56 + m) 0) (upd (upd a_jumpPlace (56 + sk (w + 1)) (nI m)) (56 + m) 0) a_bodySize (upd a_stack w (nI m)) (upd a_kinds (56 + m) (nI 8)) (upd (upd (upd a_parts (3 * (56 + m)) (b_stack w)) (3 * (56 + m) + 1) (b_stack (w + 1))) (3 * (56 + m) + 2) (b_stack (w + 2))) (upd a_numbers (56 + m) 0) a_roots (upd b_stack w (nI (56 + m))) := by
  have s0 := (C.2.2.2.2.1 w (by omega)).2
  have s1 := (C.2.2.2.2.1 (w + 1) (by omega)).2
  have s2 := (C.2.2.2.2.1 (w + 2) (by omega)).2
  have D := C.2.2.2.2.2.2.1
  have l0 := (D.2.2.1 w (by omega)).2.2.1
  have l1 := (D.2.2.1 (w + 1) (by omega)).2.2.1
  refine fa_Cpush C hm (by omega) (by omega) rfl (fa_Rput (v := 0) (fa_Rput C.2.1 (by omega) (by omega)) hm (by decide)) (fa_Rput (v := 0) (fa_Rput C.2.2.1 (by omega) (by omega)) hm (by decide)) (fun g hg => (fa_rn (by omega)).trans (fa_rn (by omega))) (fun g hg => (fa_rn (by omega)).trans (fa_rn (by omega))) (fun q hq => (pk_un (by omega)).trans ((pk_un (by omega)).trans (pk_un (by omega))))
    (fun p hp => fa_un (by omega)) (fun p hp => fa_un (by omega)) (fun p hp => fa_un (by omega)) ?_ ?_
  · rw [fa_rs, fa_rs, fa_rs, fa_rs]
    exact fa_Dchoose D hm
  · unfold yq_R
    rw [fa_us, fa_us, fa_us, fa_us, show 14 * 4 + m = 56 + m from rfl, pk_us, pk_us, pk_us, pk_us, pk_un (show 3 * (56 + m) ≠ 3 * (56 + m) + 2 by omega), pk_un (show 3 * (56 + m) ≠ 3 * (56 + m) + 1 by omega), pk_un (show 3 * (56 + m) + 1 ≠ 3 * (56 + m) + 2 by omega), pk_us, pk_us, s0, s1, s2]
    exact ⟨fun h => by omega, fun h => by omega, fun h => by omega, fun h => by omega, fun _ => ⟨rfl, rfl, rfl, rfl⟩⟩
theorem fa_Cdef {f : Nat} (C : fa_C kd st el ju cc cx cy sk sz 1 m a_kind a_number a_elsePlace a_jumpPlace a_bodySize a_stack a_kinds a_parts a_numbers a_roots b_stack) (hf : f < 4) :
    fa_C (fa_r kd f (kd 4)) (fa_r st f (st 4)) (fa_r el f (el 4)) (fa_r ju f (ju 4)) (fa_r cc f (cc 4)) (fa_r cx f (cx 4)) (fa_r cy f (cy 4)) sk (fa_u sz f m) 0 0
      (fa_cp f 14 a_kind) (fa_cp f 14 a_number) (fa_cp f 14 a_elsePlace) (fa_cp f 14 a_jumpPlace) (upd a_bodySize f (nI m)) a_stack (fa_cp f m a_kinds) (fa_cq f (3 * m) (14 * nI f - 56) a_parts) (fa_cp f m a_numbers) (upd a_roots f (nI (14 * f + sk 0))) b_stack := by
  obtain ⟨h1, h2, h3, h4, h5, h6, h7, h8, h9, h10⟩ := C
  have hB := fa_Dbody h7
  have hm14 : m ≤ 14 := h7.1
  have em : sk 0 + 1 = m := h7.2.1
  refine ⟨fa_Rcp h1 hf, fa_Rcp h2 hf, fa_Rcp h3 hf, ?_, fun _ h => absurd h (Nat.not_lt_zero _), ?_, fa_D0 _ _ _ _ _ _ _ _, ?_, ?_, fun _ h => absurd h (Nat.not_lt_zero _)⟩
  · intro g hg
    by_cases e : g = f
    · subst e; rw [pk_us, fa_us]; exact ⟨rfl, hm14⟩
    · rw [pk_un e, fa_un e]; exact h4 g hg
  · intro g hg
    by_cases e : g = f
    · subst e; rw [fa_rs, fa_rs, fa_rs, fa_rs, fa_rs, fa_rs, fa_rs, fa_us]; exact hB
    · rw [fa_rn e, fa_rn e, fa_rn e, fa_rn e, fa_rn e, fa_rn e, fa_rn e, fa_un e]; exact h6 g hg
  · intro g hg p hp
    by_cases e : g = f
    · subst e
      rw [fa_us] at hp
      rw [fa_rs, fa_rs, fa_rs, fa_rs]
      obtain ⟨y1, y2, y3, y4, y5⟩ := h10 p hp
      have eK : fa_cp g m a_kinds (14 * g + p) = a_kinds (14 * 4 + p) := by
        unfold fa_cp; rw [if_pos (by omega)]; exact congrArg a_kinds (by omega)
      have eN : fa_cp g m a_numbers (14 * g + p) = a_numbers (14 * 4 + p) := by
        unfold fa_cp; rw [if_pos (by omega)]; exact congrArg a_numbers (by omega)
      have en : fa_cp g 14 a_number (14 * g + p) = a_number (14 * 4 + p) := by
        unfold fa_cp; rw [if_pos (by omega)]; exact congrArg a_number (by omega)
      have eP : ∀ j, j < 3 → ∀ ch, a_parts (3 * (14 * 4 + p) + j) = nI (14 * 4 + ch) → fa_cq g (3 * m) (14 * nI g - 56) a_parts (3 * (14 * g + p) + j) = nI (14 * g + ch) := by
        intro j hj ch hc
        unfold fa_cq
        rw [if_pos (by omega), show 168 + (3 * (14 * g + p) + j - 42 * g) = 3 * (14 * 4 + p) + j by omega, hc]
        exact yq_sh g ch
      unfold yq_R
      rw [eK, eN, en]
      refine ⟨y1, y2, y3, fun h => ?_, fun h => ?_⟩
      · obtain ⟨q1, q2, q3⟩ := y4 h
        exact ⟨q1, eP 0 (by omega) _ q2, eP 1 (by omega) _ q3⟩
      · obtain ⟨q1, q2, q3, q4⟩ := y5 h
        exact ⟨q1, eP 0 (by omega) _ q2, eP 1 (by omega) _ q3, eP 2 (by omega) _ q4⟩
    · rw [fa_un e] at hp
      have := (h4 g hg).2
      rw [fa_rn e, fa_rn e, fa_rn e, fa_rn e]
      exact yq_Rc (h8 g hg p hp) (if_neg (by omega)) (if_neg (by omega)) (if_neg (by omega)) (if_neg (by omega)) (if_neg (by omega)) (if_neg (by omega)) rfl rfl rfl rfl
  · intro g hg
    by_cases e : g = f
    · subst e
      rw [pk_us, fa_us]
      exact ⟨hm14, congrArg nI (by omega)⟩
    · rw [pk_un e, fa_un e]; exact h9 g hg
end
