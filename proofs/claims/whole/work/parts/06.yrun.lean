theorem yq_pack (i t s : Nat) : (nI i * 128 + nI t) * 4 + nI s = nI ((i * 128 + t) * 4 + s) := by
  show (nI i * nI 128 + nI t) * nI 4 + nI s = _
  rw [pk_mul, nI_add, pk_mul, nI_add]
theorem yq_d1 (i t s : Nat) (hi : i < 61) (ht : t < 70) (hs : s < 4) : nI ((i * 128 + t) * 4 + s) - nI ((i * 128 + t) * 4 + s) / 4 * 4 = nI s := by
  have h := pk_rem (a := (i * 128 + t) * 4 + s) (d := 4) (by omega) (by omega) (by omega)
  have e : ((i * 128 + t) * 4 + s) % 4 = s := by omega
  rw [e] at h
  exact h
theorem yq_d2 (i t s : Nat) (hi : i < 61) (ht : t < 70) (hs : s < 4) : nI ((i * 128 + t) * 4 + s) / 4 - nI ((i * 128 + t) * 4 + s) / 4 / 128 * 128 = nI t := by
  have q := pk_div (a := (i * 128 + t) * 4 + s) (d := 4) (by omega) (by omega) (by omega)
  have e : ((i * 128 + t) * 4 + s) / 4 = i * 128 + t := by omega
  rw [e] at q
  have q' : nI ((i * 128 + t) * 4 + s) / 4 = nI (i * 128 + t) := q
  rw [q']
  have h := pk_rem (a := i * 128 + t) (d := 128) (by omega) (by omega) (by omega)
  have e2 : (i * 128 + t) % 128 = t := by omega
  rw [e2] at h
  exact h
theorem yq_d3 (i t s : Nat) (hi : i < 61) (ht : t < 70) (hs : s < 4) : nI ((i * 128 + t) * 4 + s) / 512 = nI i := by
  have h := pk_div (a := (i * 128 + t) * 4 + s) (d := 512) (by omega) (by omega) (by omega)
  have e : ((i * 128 + t) * 4 + s) / 512 = i := by omega
  rw [e] at h
  exact h
def yq_Ws (W : Nat → Int32) : List (Nat × Nat × Nat) → Prop
  | [] => True
  | (t, s, i) :: ws => W ws.length = nI ((i * 128 + t) * 4 + s) ∧ yq_Ws W ws
theorem yq_Wc {W W' : Nat → Int32} : ∀ ws : List (Nat × Nat × Nat), (∀ i, i < ws.length → W' i = W i) → yq_Ws W ws → yq_Ws W' ws
  | [], _, _ => True.intro
  | (t, s, i) :: ws, h, hV => ⟨(h ws.length (Nat.lt_succ_self _)).trans hV.1, yq_Wc ws (fun i hi => h i (Nat.lt_succ_of_lt hi)) hV.2⟩
theorem yq_Wup {W : Nat → Int32} {ws : List (Nat × Nat × Nat)} {j : Nat} {x : Int32} (h : yq_Ws W ws) (hj : ws.length ≤ j) : yq_Ws (upd W j x) ws :=
  yq_Wc ws (fun i hi => pk_un (by omega)) h
/-- what the reference holds at place p of row g -/
def yq_R (K P N num : Nat → Int32) (g : Nat) (k cc cx cy : Nat → Nat) (p : Nat) : Prop :=
  (k p = 8 → K (14 * g + p) = nI 9 ∧ N (14 * g + p) = num (14 * g + p)) ∧
  (k p = 9 → K (14 * g + p) = nI 10 ∧ N (14 * g + p) = nI 0) ∧
  (k p = 10 → K (14 * g + p) = nI 10 ∧ N (14 * g + p) = nI 1) ∧
  (k p ≤ 7 → K (14 * g + p) = nI (k p) ∧ P (3 * (14 * g + p)) = nI (14 * g + cx p) ∧ P (3 * (14 * g + p) + 1) = nI (14 * g + cy p)) ∧
  (k p = 11 → K (14 * g + p) = nI 8 ∧ P (3 * (14 * g + p)) = nI (14 * g + cc p) ∧ P (3 * (14 * g + p) + 1) = nI (14 * g + cx p) ∧ P (3 * (14 * g + p) + 2) = nI (14 * g + cy p))
/-- the reference's loop goes well from here -/
def yq_M (post : Int32 → SY → Prop) (f_made f_depth : Int32) (a_kinds a_parts a_numbers a_roots a_stack : Nat → Int32) (ws : List (Nat × Nat × Nat)) (vs : List Int32) (n : Nat) (A B c : Nat → Int32) : Prop :=
  ∀ a_waits a_values a_firsts a_seconds a_counts : Nat → Int32, yq_Ws a_waits ws → xq_Vs a_values vs → (∀ j, j < n → a_firsts j = A j ∧ a_seconds j = B j) → (∀ g, g < 4 → a_counts g = c g) →
    ∃ N, wY_work_50 post N f_made f_depth (nI ws.length) (nI vs.length) (nI n) (0) a_kinds a_parts a_numbers a_roots a_stack a_waits a_values a_firsts a_seconds a_counts
def yq_E (post : Int32 → SY → Prop) (f_made f_depth : Int32) (a_kinds a_parts a_numbers a_roots a_stack : Nat → Int32) (r t : Int32) (n : Nat) (c : Nat → Int32) : Prop :=
  ∀ (f_waiting f_held : Int32) (a_waits a_values a_firsts a_seconds a_counts : Nat → Int32), (∀ g, g < 4 → a_counts g = c g) → post r (f_made, f_depth, f_waiting, f_held, nI n, t, a_kinds, a_parts, a_numbers, a_roots, a_stack, a_waits, a_values, a_firsts, a_seconds, a_counts)
section
variable {f_made f_depth f_waiting f_held f_called f_tired : Int32} {a_kinds a_parts a_numbers a_roots a_stack a_waits a_values a_firsts a_seconds a_counts : Nat → Int32}
theorem yq_wait {post : SY → Prop} {x0 x1 x2 : Int32} (k t s i : Nat) (h0 : x0 = nI t) (h1 : x1 = nI s) (h2 : x2 = nI i) (hk : k < 440) (H : post (f_made, f_depth, nI (k + 1), f_held, f_called, f_tired, a_kinds, a_parts, a_numbers, a_roots, a_stack, upd a_waits k (nI ((i * 128 + t) * 4 + s)), a_values, a_firsts, a_seconds, a_counts)) : wpY_wait post (f_made, f_depth, nI k, f_held, f_called, f_tired, a_kinds, a_parts, a_numbers, a_roots, a_stack, a_waits, a_values, a_firsts, a_seconds, a_counts) x0 x1 x2 := by
  subst h0 h1 h2
  refine ⟨vp_in_nI hk (by decide), nm_r (e' := upd a_waits k (nI ((i * 128 + t) * 4 + s))) (by rw [nI_clamp (by omega), yq_pack]) ?_⟩
  exact nm_r (nI_1 k) H
theorem yq_hold {post : SY → Prop} {x : Int32} (q : Nat) (hq : q < 440) (H : post (f_made, f_depth, f_waiting, nI (q + 1), f_called, f_tired, a_kinds, a_parts, a_numbers, a_roots, a_stack, a_waits, upd a_values q x, a_firsts, a_seconds, a_counts)) : wpY_hold post (f_made, f_depth, f_waiting, nI q, f_called, f_tired, a_kinds, a_parts, a_numbers, a_roots, a_stack, a_waits, a_values, a_firsts, a_seconds, a_counts) x := by
  refine ⟨vp_in_nI hq (by decide), nm_r (e' := upd a_values q x) (by rw [nI_clamp (by omega)]) ?_⟩
  exact nm_r (nI_1 q) H
theorem yq_call {post : SY → Prop} {x p1 p2 : Int32} (n g k r : Nat) (hx : x = nI g) (hg : g < 4) (hn : n < 60) (hk : k < 440) (hr : a_roots g = nI r)
    (H : post (f_made, f_depth, nI (k + 1), f_held, nI (n + 1), f_tired, a_kinds, a_parts, a_numbers, a_roots, a_stack, upd a_waits k (nI ((n * 128 + r) * 4 + 0)), a_values, upd a_firsts n p1, upd a_seconds n p2, upd a_counts g (a_counts g + 1))) :
    wpY_call post (f_made, f_depth, nI k, f_held, nI n, f_tired, a_kinds, a_parts, a_numbers, a_roots, a_stack, a_waits, a_values, a_firsts, a_seconds, a_counts) x p1 p2 := by
  subst hx
  have cg : (nI g).toNatClampNeg = g := nI_clamp (by omega)
  refine br_f (fun z => by have := (nI_eq (b := 60) (by omega) (by decide)).mp z; omega) ?_
  refine ⟨vp_in_nI (by omega) (by decide), nm_r (e' := upd a_firsts n p1) (by rw [nI_clamp (by omega)]) ?_⟩
  refine ⟨vp_in_nI (by omega) (by decide), nm_r (e' := upd a_seconds n p2) (by rw [nI_clamp (by omega)]) ?_⟩
  refine ⟨vp_in_nI hg (by decide), ⟨vp_in_nI hg (by decide), nm_r (e' := upd a_counts g (a_counts g + 1)) (by rw [cg]) ⟨vp_in_nI hg (by decide), ?_⟩⟩⟩
  refine yq_wait k r 0 n (by rw [cg]; exact hr) rfl rfl hk ?_
  exact nm_r (nI_1 n) H
theorem yq_callT {post : SY → Prop} {x p1 p2 : Int32} (H : post (f_made, f_depth, f_waiting, f_held, nI 60, 1, a_kinds, a_parts, a_numbers, a_roots, a_stack, a_waits, a_values, a_firsts, a_seconds, a_counts)) : wpY_call post (f_made, f_depth, f_waiting, f_held, nI 60, f_tired, a_kinds, a_parts, a_numbers, a_roots, a_stack, a_waits, a_values, a_firsts, a_seconds, a_counts) x p1 p2 := br_t rfl H
theorem yq_step {post : Int32 → SY → Prop} {N : Nat} (k i t s : Nat) (hk : k < 440) (hi : i < 61) (ht : t < 70) (hs : s < 4) (hW : a_waits k = nI ((i * 128 + t) * 4 + s))
    (H : (nI s = 0 → wpY_begin (fun u => match u with | (f_made, f_depth, f_waiting, f_held, f_called, f_tired, a_kinds, a_parts, a_numbers, a_roots, a_stack, a_waits, a_values, a_firsts, a_seconds, a_counts) => wY_work_50 post N f_made f_depth f_waiting f_held f_called f_tired a_kinds a_parts a_numbers a_roots a_stack a_waits a_values a_firsts a_seconds a_counts) (f_made, f_depth, nI k, f_held, f_called, 0, a_kinds, a_parts, a_numbers, a_roots, a_stack, a_waits, a_values, a_firsts, a_seconds, a_counts) (nI t) (nI i)) ∧ (¬ nI s = 0 → wpY_goOn (fun u => match u with | (f_made, f_depth, f_waiting, f_held, f_called, f_tired, a_kinds, a_parts, a_numbers, a_roots, a_stack, a_waits, a_values, a_firsts, a_seconds, a_counts) => wY_work_50 post N f_made f_depth f_waiting f_held f_called f_tired a_kinds a_parts a_numbers a_roots a_stack a_waits a_values a_firsts a_seconds a_counts) (f_made, f_depth, nI k, f_held, f_called, 0, a_kinds, a_parts, a_numbers, a_roots, a_stack, a_waits, a_values, a_firsts, a_seconds, a_counts) (nI t) (nI s) (nI i))) :
    wY_work_50 post (N + 1) f_made f_depth (nI (k + 1)) f_held f_called (0) a_kinds a_parts a_numbers a_roots a_stack a_waits a_values a_firsts a_seconds a_counts := by
  have ck : (nI k).toNatClampNeg = k := nI_clamp (by omega)
  have vk : vp_in (nI k) 440 := vp_in_nI hk (by decide)
  refine br_f (nI_nle (by omega) (by omega)) (br_t rfl (nm_r (e' := nI k) (nI_pred k) ⟨vk, by decide, nm_r (e' := nI s) ?_ ⟨vk, by decide, by decide, nm_r (e' := nI t) ?_ ⟨vk, by decide, nm_r (e' := nI i) ?_ H⟩⟩⟩))
  · rw [ck, hW]; exact yq_d1 i t s hi ht hs
  · rw [ck, hW]; exact yq_d2 i t s hi ht hs
  · rw [ck, hW]; exact yq_d3 i t s hi ht hs
theorem yq_finish_o {post : SY → Prop} {x y z : Int32} (k q : Nat) (hk : k < 4) (hz : z = nI k) (hq : q + 1 < 440) (hx : a_values q = x) (hy : a_values (q + 1) = y)
    (H : post (f_made, f_depth, f_waiting, nI (q + 1), f_called, f_tired, a_kinds, a_parts, a_numbers, a_roots, a_stack, a_waits, upd a_values q (fa_comb k x y), a_firsts, a_seconds, a_counts)) : wpY_finish post (f_made, f_depth, f_waiting, nI (q + 2), f_called, f_tired, a_kinds, a_parts, a_numbers, a_roots, a_stack, a_waits, a_values, a_firsts, a_seconds, a_counts) z := by
  subst hz
  refine nm_r (e' := nI q) (pk_sub (a := q + 2) (b := 2) (by omega)) ?_
  refine ⟨vp_in_nI (by omega) (by decide), nm_r (e' := x) (by rw [nI_clamp (by omega)]; exact hx) ?_⟩
  refine ⟨by rw [nI_1]; exact vp_in_nI hq (by decide), nm_r (e' := y) (by rw [nI_1, nI_clamp (by omega)]; exact hy) ?_⟩
  refine br_t (nI_le (b := 3) (by omega) (by decide)) ?_
  unfold fa_comb at H
  by_cases h0 : k = 0
  · rw [if_pos h0] at H; subst h0
    exact br_t rfl (yq_hold q (by omega) H)
  rw [if_neg h0] at H
  refine br_f (nI_ne0 (by omega) (by omega)) ?_
  by_cases h1 : k = 1
  · rw [if_pos h1] at H; subst h1
    exact br_t rfl (yq_hold q (by omega) H)
  rw [if_neg h1] at H
  refine br_f (fun z => h1 ((nI_eq (by omega) (by decide)).mp z)) ?_
  by_cases h2 : k = 2
  · rw [if_pos h2] at H; subst h2
    exact br_t rfl (yq_hold q (by omega) H)
  rw [if_neg h2] at H
  refine br_f (fun z => h2 ((nI_eq (by omega) (by decide)).mp z)) ?_
  by_cases hxy : x < y
  · rw [if_pos hxy] at H
    exact br_f (Int32.not_le.mpr hxy) (yq_hold q (by omega) H)
  · rw [if_neg hxy] at H
    exact br_t (Int32.not_lt.mp hxy) (yq_hold q (by omega) H)
theorem yq_finish_c {post : SY → Prop} {x y z : Int32} (k q : Nat) (hk : k ≤ 7) (hk4 : ¬ k < 4) (hz : z = nI k) (hq : q + 1 < 440) (hx : a_values q = x) (hy : a_values (q + 1) = y)
    (H : wpY_call post (f_made, f_depth, f_waiting, nI q, f_called, f_tired, a_kinds, a_parts, a_numbers, a_roots, a_stack, a_waits, a_values, a_firsts, a_seconds, a_counts) (nI (k - 4)) x y) : wpY_finish post (f_made, f_depth, f_waiting, nI (q + 2), f_called, f_tired, a_kinds, a_parts, a_numbers, a_roots, a_stack, a_waits, a_values, a_firsts, a_seconds, a_counts) z := by
  subst hz
  refine nm_r (e' := nI q) (pk_sub (a := q + 2) (b := 2) (by omega)) ?_
  refine ⟨vp_in_nI (by omega) (by decide), nm_r (e' := x) (by rw [nI_clamp (by omega)]; exact hx) ?_⟩
  refine ⟨by rw [nI_1]; exact vp_in_nI hq (by decide), nm_r (e' := y) (by rw [nI_1, nI_clamp (by omega)]; exact hy) ?_⟩
  refine br_f (nI_ge (a := 3) (by omega) (by omega)) ?_
  have e : nI k - 4 = nI (k - 4) := pk_sub (b := 4) (by omega)
  rw [e]
  exact H
end
section
variable {post : Int32 → SY → Prop} {f_made f_depth : Int32} {a_kinds a_parts a_numbers a_roots a_stack num : Nat → Int32} {kd cc cx cy : Nat → Nat → Nat} {sz : Nat → Nat}
theorem yq_C (hR : ∀ g, g < 4 → ∀ p, p < sz g → yq_R a_kinds a_parts a_numbers num g (kd g) (cc g) (cx g) (cy g) p) (hz : ∀ g, g < 4 → sz g ≤ 14 ∧ a_roots g = nI (14 * g + (sz g - 1))) (g p i : Nat) (ws : List (Nat × Nat × Nat)) (vs : List Int32) (n : Nat) (A B c : Nat → Int32) (hg : g < 4) (hp : p < sz g) (hi : i < n) (hn : n ≤ 60) (lw : ws.length < 400) (lv : vs.length < 400) (hk : kd g p = 8) (H : yq_M post f_made f_depth a_kinds a_parts a_numbers a_roots a_stack ws (num (14 * g + p) :: vs) n A B c) : yq_M post f_made f_depth a_kinds a_parts a_numbers a_roots a_stack ((14 * g + p, 0, i) :: ws) vs n A B c := by
  intro a_waits a_values a_firsts a_seconds a_counts hW hV hAB hc
  obtain ⟨w1, hW'⟩ := hW
  have z := (hz g hg).1
  have rr := hR g hg p hp
  have ct : (nI (14 * g + p)).toNatClampNeg = 14 * g + p := nI_clamp (by omega)
  have vt : vp_in (nI (14 * g + p)) 70 := vp_in_nI (by omega) (by decide)
  obtain ⟨q1, q2⟩ := rr.1 hk
  have ab := hAB i hi
  obtain ⟨N, hN⟩ := H a_waits (upd a_values vs.length (num (14 * g + p))) a_firsts a_seconds a_counts hW' ⟨pk_us, xq_Vup hV (Nat.le_refl _)⟩ hAB hc
  refine ⟨N + 1, ?_⟩
  refine yq_step ws.length i (14 * g + p) 0 (by omega) (by omega) (by omega) (by omega) w1 (br_t rfl ?_)
  refine ⟨vt, br_t (by rw [ct]; exact q1) ⟨vt, ?_⟩⟩
  rw [ct, q2]
  exact yq_hold vs.length (by omega) hN
theorem yq_F (hR : ∀ g, g < 4 → ∀ p, p < sz g → yq_R a_kinds a_parts a_numbers num g (kd g) (cc g) (cx g) (cy g) p) (hz : ∀ g, g < 4 → sz g ≤ 14 ∧ a_roots g = nI (14 * g + (sz g - 1))) (g p i : Nat) (ws : List (Nat × Nat × Nat)) (vs : List Int32) (n : Nat) (A B c : Nat → Int32) (hg : g < 4) (hp : p < sz g) (hi : i < n) (hn : n ≤ 60) (lw : ws.length < 400) (lv : vs.length < 400) (hk : kd g p = 9) (H : yq_M post f_made f_depth a_kinds a_parts a_numbers a_roots a_stack ws (A i :: vs) n A B c) : yq_M post f_made f_depth a_kinds a_parts a_numbers a_roots a_stack ((14 * g + p, 0, i) :: ws) vs n A B c := by
  intro a_waits a_values a_firsts a_seconds a_counts hW hV hAB hc
  obtain ⟨w1, hW'⟩ := hW
  have z := (hz g hg).1
  have rr := hR g hg p hp
  have ct : (nI (14 * g + p)).toNatClampNeg = 14 * g + p := nI_clamp (by omega)
  have vt : vp_in (nI (14 * g + p)) 70 := vp_in_nI (by omega) (by decide)
  obtain ⟨q1, q2⟩ := rr.2.1 hk
  have ab := hAB i hi
  obtain ⟨N, hN⟩ := H a_waits (upd a_values vs.length (A i)) a_firsts a_seconds a_counts hW' ⟨pk_us, xq_Vup hV (Nat.le_refl _)⟩ hAB hc
  refine ⟨N + 1, ?_⟩
  refine yq_step ws.length i (14 * g + p) 0 (by omega) (by omega) (by omega) (by omega) w1 (br_t rfl ?_)
  refine ⟨vt, br_f (by rw [ct, q1]; decide) ⟨vt, br_t (by rw [ct]; exact q1) ⟨vt, ?_⟩⟩⟩
  refine br_t (by rw [ct]; exact q2) ⟨vp_in_nI (by omega) (by decide), ?_⟩
  rw [nI_clamp (n := i) (by omega), ab.1]
  unfold wY_begin_60
  exact yq_hold vs.length (by omega) hN
theorem yq_S (hR : ∀ g, g < 4 → ∀ p, p < sz g → yq_R a_kinds a_parts a_numbers num g (kd g) (cc g) (cx g) (cy g) p) (hz : ∀ g, g < 4 → sz g ≤ 14 ∧ a_roots g = nI (14 * g + (sz g - 1))) (g p i : Nat) (ws : List (Nat × Nat × Nat)) (vs : List Int32) (n : Nat) (A B c : Nat → Int32) (hg : g < 4) (hp : p < sz g) (hi : i < n) (hn : n ≤ 60) (lw : ws.length < 400) (lv : vs.length < 400) (hk : kd g p = 10) (H : yq_M post f_made f_depth a_kinds a_parts a_numbers a_roots a_stack ws (B i :: vs) n A B c) : yq_M post f_made f_depth a_kinds a_parts a_numbers a_roots a_stack ((14 * g + p, 0, i) :: ws) vs n A B c := by
  intro a_waits a_values a_firsts a_seconds a_counts hW hV hAB hc
  obtain ⟨w1, hW'⟩ := hW
  have z := (hz g hg).1
  have rr := hR g hg p hp
  have ct : (nI (14 * g + p)).toNatClampNeg = 14 * g + p := nI_clamp (by omega)
  have vt : vp_in (nI (14 * g + p)) 70 := vp_in_nI (by omega) (by decide)
  obtain ⟨q1, q2⟩ := rr.2.2.1 hk
  have ab := hAB i hi
  obtain ⟨N, hN⟩ := H a_waits (upd a_values vs.length (B i)) a_firsts a_seconds a_counts hW' ⟨pk_us, xq_Vup hV (Nat.le_refl _)⟩ hAB hc
  refine ⟨N + 1, ?_⟩
  refine yq_step ws.length i (14 * g + p) 0 (by omega) (by omega) (by omega) (by omega) w1 (br_t rfl ?_)
  refine ⟨vt, br_f (by rw [ct, q1]; decide) ⟨vt, br_t (by rw [ct]; exact q1) ⟨vt, ?_⟩⟩⟩
  refine br_f (by rw [ct, q2]; decide) ⟨vp_in_nI (by omega) (by decide), ?_⟩
  rw [nI_clamp (n := i) (by omega), ab.2]
  unfold wY_begin_60
  exact yq_hold vs.length (by omega) hN
theorem yq_T (hR : ∀ g, g < 4 → ∀ p, p < sz g → yq_R a_kinds a_parts a_numbers num g (kd g) (cc g) (cx g) (cy g) p) (hz : ∀ g, g < 4 → sz g ≤ 14 ∧ a_roots g = nI (14 * g + (sz g - 1))) (g p i : Nat) (ws : List (Nat × Nat × Nat)) (vs : List Int32) (n : Nat) (A B c : Nat → Int32) (hg : g < 4) (hp : p < sz g) (hi : i < n) (hn : n ≤ 60) (lw : ws.length < 400) (lv : vs.length < 400) (hk : kd g p ≤ 7) (H : yq_M post f_made f_depth a_kinds a_parts a_numbers a_roots a_stack ((14 * g + cx g p, 0, i) :: (14 * g + p, 1, i) :: ws) vs n A B c) : yq_M post f_made f_depth a_kinds a_parts a_numbers a_roots a_stack ((14 * g + p, 0, i) :: ws) vs n A B c := by
  intro a_waits a_values a_firsts a_seconds a_counts hW hV hAB hc
  obtain ⟨w1, hW'⟩ := hW
  have z := (hz g hg).1
  have rr := hR g hg p hp
  have ct : (nI (14 * g + p)).toNatClampNeg = 14 * g + p := nI_clamp (by omega)
  have vt : vp_in (nI (14 * g + p)) 70 := vp_in_nI (by omega) (by decide)
  obtain ⟨q1, q2, q3⟩ := rr.2.2.2.1 hk
  obtain ⟨N, hN⟩ := H (upd (upd a_waits ws.length (nI ((i * 128 + (14 * g + p)) * 4 + 1))) (ws.length + 1) (nI ((i * 128 + (14 * g + cx g p)) * 4 + 0))) a_values a_firsts a_seconds a_counts ⟨pk_us, (pk_un (by omega)).trans pk_us, yq_Wup (yq_Wup hW' (Nat.le_refl _)) (by omega)⟩ hV hAB hc
  refine ⟨N + 1, ?_⟩
  refine yq_step ws.length i (14 * g + p) 0 (by omega) (by omega) (by omega) (by omega) w1 (br_t rfl ?_)
  refine ⟨vt, br_f (by rw [ct, q1]; exact fun z => by have := (nI_eq (b := 9) (by omega) (by decide)).mp z; omega) ⟨vt, br_f (by rw [ct, q1]; exact fun z => by have := (nI_eq (b := 10) (by omega) (by decide)).mp z; omega) ?_⟩⟩
  refine yq_wait ws.length (14 * g + p) 1 i rfl rfl rfl (by omega) ?_
  refine ⟨by rw [show (3 : Int32) * nI (14 * g + p) = nI (3 * (14 * g + p)) from pk_mul 3 _]; exact vp_in_nI (by omega) (by decide), ?_⟩
  refine yq_wait (ws.length + 1) (14 * g + cx g p) 0 i (by rw [show (3 : Int32) * nI (14 * g + p) = nI (3 * (14 * g + p)) from pk_mul 3 _, nI_clamp (by omega)]; exact q2) rfl rfl (by omega) ?_
  exact hN
theorem yq_H (hR : ∀ g, g < 4 → ∀ p, p < sz g → yq_R a_kinds a_parts a_numbers num g (kd g) (cc g) (cx g) (cy g) p) (hz : ∀ g, g < 4 → sz g ≤ 14 ∧ a_roots g = nI (14 * g + (sz g - 1))) (g p i : Nat) (ws : List (Nat × Nat × Nat)) (vs : List Int32) (n : Nat) (A B c : Nat → Int32) (hg : g < 4) (hp : p < sz g) (hi : i < n) (hn : n ≤ 60) (lw : ws.length < 400) (lv : vs.length < 400) (hk : kd g p = 11) (H : yq_M post f_made f_depth a_kinds a_parts a_numbers a_roots a_stack ((14 * g + cc g p, 0, i) :: (14 * g + p, 1, i) :: ws) vs n A B c) : yq_M post f_made f_depth a_kinds a_parts a_numbers a_roots a_stack ((14 * g + p, 0, i) :: ws) vs n A B c := by
  intro a_waits a_values a_firsts a_seconds a_counts hW hV hAB hc
  obtain ⟨w1, hW'⟩ := hW
  have z := (hz g hg).1
  have rr := hR g hg p hp
  have ct : (nI (14 * g + p)).toNatClampNeg = 14 * g + p := nI_clamp (by omega)
  have vt : vp_in (nI (14 * g + p)) 70 := vp_in_nI (by omega) (by decide)
  obtain ⟨q1, q2, q3, q4⟩ := rr.2.2.2.2 hk
  obtain ⟨N, hN⟩ := H (upd (upd a_waits ws.length (nI ((i * 128 + (14 * g + p)) * 4 + 1))) (ws.length + 1) (nI ((i * 128 + (14 * g + cc g p)) * 4 + 0))) a_values a_firsts a_seconds a_counts ⟨pk_us, (pk_un (by omega)).trans pk_us, yq_Wup (yq_Wup hW' (Nat.le_refl _)) (by omega)⟩ hV hAB hc
  refine ⟨N + 1, ?_⟩
  refine yq_step ws.length i (14 * g + p) 0 (by omega) (by omega) (by omega) (by omega) w1 (br_t rfl ?_)
  refine ⟨vt, br_f (by rw [ct, q1]; exact by decide) ⟨vt, br_f (by rw [ct, q1]; exact by decide) ?_⟩⟩
  refine yq_wait ws.length (14 * g + p) 1 i rfl rfl rfl (by omega) ?_
  refine ⟨by rw [show (3 : Int32) * nI (14 * g + p) = nI (3 * (14 * g + p)) from pk_mul 3 _]; exact vp_in_nI (by omega) (by decide), ?_⟩
  refine yq_wait (ws.length + 1) (14 * g + cc g p) 0 i (by rw [show (3 : Int32) * nI (14 * g + p) = nI (3 * (14 * g + p)) from pk_mul 3 _, nI_clamp (by omega)]; exact q2) rfl rfl (by omega) ?_
  exact hN
theorem yq_U (hR : ∀ g, g < 4 → ∀ p, p < sz g → yq_R a_kinds a_parts a_numbers num g (kd g) (cc g) (cx g) (cy g) p) (hz : ∀ g, g < 4 → sz g ≤ 14 ∧ a_roots g = nI (14 * g + (sz g - 1))) (g p i : Nat) (ws : List (Nat × Nat × Nat)) (vs : List Int32) (n : Nat) (A B c : Nat → Int32) (hg : g < 4) (hp : p < sz g) (hi : i < n) (hn : n ≤ 60) (lw : ws.length < 400) (lv : vs.length < 400) (hk : kd g p ≤ 7) (H : yq_M post f_made f_depth a_kinds a_parts a_numbers a_roots a_stack ((14 * g + cy g p, 0, i) :: (14 * g + p, 2, i) :: ws) vs n A B c) : yq_M post f_made f_depth a_kinds a_parts a_numbers a_roots a_stack ((14 * g + p, 1, i) :: ws) vs n A B c := by
  intro a_waits a_values a_firsts a_seconds a_counts hW hV hAB hc
  obtain ⟨w1, hW'⟩ := hW
  have z := (hz g hg).1
  have rr := hR g hg p hp
  have ct : (nI (14 * g + p)).toNatClampNeg = 14 * g + p := nI_clamp (by omega)
  have vt : vp_in (nI (14 * g + p)) 70 := vp_in_nI (by omega) (by decide)
  obtain ⟨q1, q2, q3⟩ := rr.2.2.2.1 hk
  obtain ⟨N, hN⟩ := H (upd (upd a_waits ws.length (nI ((i * 128 + (14 * g + p)) * 4 + 2))) (ws.length + 1) (nI ((i * 128 + (14 * g + cy g p)) * 4 + 0))) a_values a_firsts a_seconds a_counts ⟨pk_us, (pk_un (by omega)).trans pk_us, yq_Wup (yq_Wup hW' (Nat.le_refl _)) (by omega)⟩ hV hAB hc
  refine ⟨N + 1, ?_⟩
  refine yq_step ws.length i (14 * g + p) 1 (by omega) (by omega) (by omega) (by omega) w1 (br_f (by decide) ?_)
  refine ⟨vt, br_f (by rw [ct, q1]; exact fun z => by have := (nI_eq (b := 8) (by omega) (by decide)).mp z; omega) (br_t rfl ?_)⟩
  refine yq_wait ws.length (14 * g + p) 2 i rfl rfl rfl (by omega) ?_
  have e3 : (3 : Int32) * nI (14 * g + p) + 1 = nI (3 * (14 * g + p) + 1) := by rw [show (3 : Int32) * nI (14 * g + p) = nI (3 * (14 * g + p)) from pk_mul 3 _, nI_1]
  refine ⟨by rw [e3]; exact vp_in_nI (by omega) (by decide), ?_⟩
  refine yq_wait (ws.length + 1) (14 * g + cy g p) 0 i (by rw [e3, nI_clamp (by omega)]; exact q3) rfl rfl (by omega) ?_
  exact hN
theorem yq_O (hR : ∀ g, g < 4 → ∀ p, p < sz g → yq_R a_kinds a_parts a_numbers num g (kd g) (cc g) (cx g) (cy g) p) (hz : ∀ g, g < 4 → sz g ≤ 14 ∧ a_roots g = nI (14 * g + (sz g - 1))) (g p i : Nat) (ws : List (Nat × Nat × Nat)) (vs : List Int32) (n : Nat) (A B c : Nat → Int32) (x y : Int32) (hg : g < 4) (hp : p < sz g) (hi : i < n) (hn : n ≤ 60) (lw : ws.length < 400) (lv : vs.length < 400) (hk : kd g p < 4) (H : yq_M post f_made f_depth a_kinds a_parts a_numbers a_roots a_stack ws (fa_comb (kd g p) x y :: vs) n A B c) : yq_M post f_made f_depth a_kinds a_parts a_numbers a_roots a_stack ((14 * g + p, 2, i) :: ws) (y :: x :: vs) n A B c := by
  intro a_waits a_values a_firsts a_seconds a_counts hW hV hAB hc
  obtain ⟨w1, hW'⟩ := hW
  have z := (hz g hg).1
  have rr := hR g hg p hp
  have ct : (nI (14 * g + p)).toNatClampNeg = 14 * g + p := nI_clamp (by omega)
  have vt : vp_in (nI (14 * g + p)) 70 := vp_in_nI (by omega) (by decide)
  obtain ⟨q1, q2, q3⟩ := rr.2.2.2.1 (by omega)
  obtain ⟨v1, v2, hV'⟩ := hV
  have v1' : a_values (vs.length + 1) = y := v1
  obtain ⟨N, hN⟩ := H a_waits (upd a_values vs.length (fa_comb (kd g p) x y)) a_firsts a_seconds a_counts hW' ⟨pk_us, xq_Vup hV' (Nat.le_refl _)⟩ hAB hc
  refine ⟨N + 1, ?_⟩
  refine yq_step ws.length i (14 * g + p) 2 (by omega) (by omega) (by omega) (by omega) w1 (br_f (by decide) ?_)
  refine ⟨vt, br_f (by rw [ct, q1]; exact fun z => by have := (nI_eq (b := 8) (by omega) (by decide)).mp z; omega) (br_f (by decide) ⟨vt, ?_⟩)⟩
  refine yq_finish_o (kd g p) vs.length hk (by rw [ct]; exact q1) (by omega) v2 v1' ?_
  exact hN
theorem yq_K (hR : ∀ g, g < 4 → ∀ p, p < sz g → yq_R a_kinds a_parts a_numbers num g (kd g) (cc g) (cx g) (cy g) p) (hz : ∀ g, g < 4 → sz g ≤ 14 ∧ a_roots g = nI (14 * g + (sz g - 1))) (g p i : Nat) (ws : List (Nat × Nat × Nat)) (vs : List Int32) (n : Nat) (A B c : Nat → Int32) (x y : Int32) (hg : g < 4) (hp : p < sz g) (hi : i < n) (hn : n ≤ 60) (lw : ws.length < 400) (lv : vs.length < 400) (hk : kd g p ≤ 7) (hk4 : ¬ kd g p < 4) (hn60 : n < 60) (H : yq_M post f_made f_depth a_kinds a_parts a_numbers a_roots a_stack ((14 * (kd g p - 4) + (sz (kd g p - 4) - 1), 0, n) :: ws) vs (n + 1) (upd A n x) (upd B n y) (upd c (kd g p - 4) (c (kd g p - 4) + 1))) : yq_M post f_made f_depth a_kinds a_parts a_numbers a_roots a_stack ((14 * g + p, 2, i) :: ws) (y :: x :: vs) n A B c := by
  intro a_waits a_values a_firsts a_seconds a_counts hW hV hAB hc
  obtain ⟨w1, hW'⟩ := hW
  have z := (hz g hg).1
  have rr := hR g hg p hp
  have ct : (nI (14 * g + p)).toNatClampNeg = 14 * g + p := nI_clamp (by omega)
  have vt : vp_in (nI (14 * g + p)) 70 := vp_in_nI (by omega) (by decide)
  obtain ⟨q1, q2, q3⟩ := rr.2.2.2.1 hk
  obtain ⟨v1, v2, hV'⟩ := hV
  have v1' : a_values (vs.length + 1) = y := v1
  have hc' : ∀ h, h < 4 → upd a_counts (kd g p - 4) (a_counts (kd g p - 4) + 1) h = upd c (kd g p - 4) (c (kd g p - 4) + 1) h := by
    intro h hh
    by_cases e : h = kd g p - 4
    · rw [e, pk_us, pk_us, hc _ (by omega)]
    · rw [pk_un e, pk_un e, hc h hh]
  have hAB' : ∀ j, j < n + 1 → upd a_firsts n x j = upd A n x j ∧ upd a_seconds n y j = upd B n y j := by
    intro j hj
    by_cases e : j = n
    · rw [e, pk_us, pk_us, pk_us, pk_us]; exact ⟨rfl, rfl⟩
    · rw [pk_un e, pk_un e, pk_un e, pk_un e]; exact hAB j (by omega)
  obtain ⟨N, hN⟩ := H (upd a_waits ws.length (nI ((n * 128 + (14 * (kd g p - 4) + (sz (kd g p - 4) - 1))) * 4 + 0))) a_values _ _ _ ⟨pk_us, yq_Wup hW' (Nat.le_refl _)⟩ hV' hAB' hc'
  refine ⟨N + 1, ?_⟩
  refine yq_step ws.length i (14 * g + p) 2 (by omega) (by omega) (by omega) (by omega) w1 (br_f (by decide) ?_)
  refine ⟨vt, br_f (by rw [ct, q1]; exact fun z => by have := (nI_eq (b := 8) (by omega) (by decide)).mp z; omega) (br_f (by decide) ⟨vt, ?_⟩)⟩
  refine yq_finish_c (kd g p) vs.length hk hk4 (by rw [ct]; exact q1) (by omega) v2 v1' ?_
  refine yq_call n (kd g p - 4) ws.length (14 * (kd g p - 4) + (sz (kd g p - 4) - 1)) rfl (by omega) hn60 (by omega) (hz (kd g p - 4) (by omega)).2 ?_
  exact hN
theorem yq_exit {r t : Int32} {n : Nat} {c : Nat → Int32} {f_waiting f_held : Int32} {a_waits a_values a_firsts a_seconds a_counts : Nat → Int32} (H : wY_work_148 post f_made f_depth f_waiting f_held (nI n) (t) a_kinds a_parts a_numbers a_roots a_stack a_waits a_values a_firsts a_seconds a_counts) (h : f_waiting ≤ 0 ∨ ¬ t = 0) :
    wY_work_50 post 1 f_made f_depth f_waiting f_held (nI n) (t) a_kinds a_parts a_numbers a_roots a_stack a_waits a_values a_firsts a_seconds a_counts := by
  refine br_c (fun _ => H) (fun h' => ?_)
  rcases h with h | h
  · exact absurd h h'
  · exact br_f h H
theorem yq_X (hR : ∀ g, g < 4 → ∀ p, p < sz g → yq_R a_kinds a_parts a_numbers num g (kd g) (cc g) (cx g) (cy g) p) (hz : ∀ g, g < 4 → sz g ≤ 14 ∧ a_roots g = nI (14 * g + (sz g - 1))) (g p i : Nat) (ws : List (Nat × Nat × Nat)) (vs : List Int32) (n : Nat) (A B c : Nat → Int32) (x y : Int32) (hg : g < 4) (hp : p < sz g) (hi : i < n) (hn : n ≤ 60) (lw : ws.length < 400) (lv : vs.length < 400) (hk : kd g p ≤ 7) (hk4 : ¬ kd g p < 4) (hn60 : n = 60) (H : yq_E post f_made f_depth a_kinds a_parts a_numbers a_roots a_stack 0 1 n c) : yq_M post f_made f_depth a_kinds a_parts a_numbers a_roots a_stack ((14 * g + p, 2, i) :: ws) (y :: x :: vs) n A B c := by
  intro a_waits a_values a_firsts a_seconds a_counts hW hV hAB hc
  obtain ⟨w1, hW'⟩ := hW
  have z := (hz g hg).1
  have rr := hR g hg p hp
  have ct : (nI (14 * g + p)).toNatClampNeg = 14 * g + p := nI_clamp (by omega)
  have vt : vp_in (nI (14 * g + p)) 70 := vp_in_nI (by omega) (by decide)
  obtain ⟨q1, q2, q3⟩ := rr.2.2.2.1 hk
  obtain ⟨v1, v2, hV'⟩ := hV
  have v1' : a_values (vs.length + 1) = y := v1
  subst hn60
  refine ⟨2, ?_⟩
  refine yq_step ws.length i (14 * g + p) 2 (by omega) (by omega) (by omega) (by omega) w1 (br_f (by decide) ?_)
  refine ⟨vt, br_f (by rw [ct, q1]; exact fun z => by have := (nI_eq (b := 8) (by omega) (by decide)).mp z; omega) (br_f (by decide) ⟨vt, ?_⟩)⟩
  refine yq_finish_c (kd g p) vs.length hk hk4 (by rw [ct]; exact q1) (by omega) v2 v1' ?_
  refine yq_callT ?_
  exact yq_exit (r := 0) (c := c) (br_f (by decide) (H _ _ _ _ _ _ _ hc)) (Or.inr (by decide))
theorem yq_I (hR : ∀ g, g < 4 → ∀ p, p < sz g → yq_R a_kinds a_parts a_numbers num g (kd g) (cc g) (cx g) (cy g) p) (hz : ∀ g, g < 4 → sz g ≤ 14 ∧ a_roots g = nI (14 * g + (sz g - 1))) (g p i : Nat) (ws : List (Nat × Nat × Nat)) (vs : List Int32) (n : Nat) (A B c : Nat → Int32) (v : Int32) (hg : g < 4) (hp : p < sz g) (hi : i < n) (hn : n ≤ 60) (lw : ws.length < 400) (lv : vs.length < 400) (hk : kd g p = 11) (H : yq_M post f_made f_depth a_kinds a_parts a_numbers a_roots a_stack ((14 * g + (if v = 0 then cy g p else cx g p), 0, i) :: ws) vs n A B c) : yq_M post f_made f_depth a_kinds a_parts a_numbers a_roots a_stack ((14 * g + p, 1, i) :: ws) (v :: vs) n A B c := by
  intro a_waits a_values a_firsts a_seconds a_counts hW hV hAB hc
  obtain ⟨w1, hW'⟩ := hW
  have z := (hz g hg).1
  have rr := hR g hg p hp
  have ct : (nI (14 * g + p)).toNatClampNeg = 14 * g + p := nI_clamp (by omega)
  have vt : vp_in (nI (14 * g + p)) 70 := vp_in_nI (by omega) (by decide)
  obtain ⟨q1, q2, q3, q4⟩ := rr.2.2.2.2 hk
  obtain ⟨v1, hV'⟩ := hV
  obtain ⟨N, hN⟩ := H (upd a_waits ws.length (nI ((i * 128 + (14 * g + (if v = 0 then cy g p else cx g p))) * 4 + 0))) a_values a_firsts a_seconds a_counts ⟨pk_us, yq_Wup hW' (Nat.le_refl _)⟩ hV' hAB hc
  refine ⟨N + 1, ?_⟩
  refine yq_step ws.length i (14 * g + p) 1 (by omega) (by omega) (by omega) (by omega) w1 (br_f (by decide) ?_)
  have e3 : (3 : Int32) * nI (14 * g + p) = nI (3 * (14 * g + p)) := pk_mul 3 _
  refine ⟨vt, br_t (by rw [ct]; exact q1) ?_⟩
  refine nm_r (e' := nI vs.length) (nI_pred _) ⟨vp_in_nI (by omega) (by decide), ?_⟩
  have cv : a_values (nI vs.length).toNatClampNeg = v := by rw [nI_clamp (by omega)]; exact v1
  rw [cv]
  by_cases v0 : v = 0
  · rw [if_pos v0] at hN
    refine br_t v0 ?_
    have e4 : (3 : Int32) * nI (14 * g + p) + 2 = nI (3 * (14 * g + p) + 2) := by rw [e3]; exact nI_add _ 2
    refine ⟨by rw [e4]; exact vp_in_nI (by omega) (by decide), ?_⟩
    exact yq_wait ws.length (14 * g + cy g p) 0 i (by rw [e4, nI_clamp (by omega)]; exact q4) rfl rfl (by omega) hN
  · rw [if_neg v0] at hN
    refine br_f v0 ?_
    have e4 : (3 : Int32) * nI (14 * g + p) + 1 = nI (3 * (14 * g + p) + 1) := by rw [e3]; exact nI_add _ 1
    refine ⟨by rw [e4]; exact vp_in_nI (by omega) (by decide), ?_⟩
    exact yq_wait ws.length (14 * g + cx g p) 0 i (by rw [e4, nI_clamp (by omega)]; exact q3) rfl rfl (by omega) hN
end
