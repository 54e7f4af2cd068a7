/-- the draft row: w terms on the stack, m made; their spans lie end to end, and no term of the stack is a part of another -/
def fa_u (f : Nat → Nat) (i v : Nat) : Nat → Nat := fun j => if j = i then v else f j
theorem fa_us {f : Nat → Nat} {i v : Nat} : fa_u f i v i = v := if_pos rfl
theorem fa_un {f : Nat → Nat} {i v j : Nat} (h : j ≠ i) : fa_u f i v j = f j := if_neg h
def fa_Bnd (sk : Nat → Nat) : Nat → Nat
  | 0 => 0
  | i + 1 => sk i + 1
def fa_D (k st el ju cc cx cy sk : Nat → Nat) (w m : Nat) : Prop :=
  m ≤ 14 ∧ fa_Bnd sk w = m ∧
  (∀ i, i < w → st (sk i) = fa_Bnd sk i ∧ st (sk i) ≤ sk i ∧ sk i < m ∧ el (sk i) = 0 ∧ ju (sk i) = 0) ∧
  (∀ p, p < m → fa_LC k st el ju cc cx cy p) ∧
  (∀ p, p < m → ∀ i, i < w → (k p ≤ 7 ∨ k p = 11 → sk i ≠ cx p ∧ sk i ≠ cy p) ∧ (k p = 11 → sk i ≠ cc p))
theorem fa_LCc {k st el ju cc cx cy k' st' el' ju' cc' cx' cy' : Nat → Nat} {p : Nat} (h : fa_LC k st el ju cc cx cy p)
    (hk : k' p = k p) (hc : cc' p = cc p) (hx : cx' p = cx p) (hy : cy' p = cy p) (hs : ∀ q, q ≤ p → st' q = st q)
    (h1 : k p ≤ 7 ∨ k p = 11 → el' (cx p) = el (cx p) ∧ ju' (cx p) = ju (cx p) ∧ el' (cy p) = el (cy p) ∧ ju' (cy p) = ju (cy p))
    (h2 : k p = 11 → el' (cc p) = el (cc p)) : fa_LC k' st' el' ju' cc' cx' cy' p := by
  unfold fa_LC
  rw [hk, hc, hx, hy]
  rcases h with ⟨h8, h10, e⟩ | ⟨h7, ey, ex, es, lx, ly, x1, x2, y1, y2⟩ | ⟨h11, ey, ex, ec, es, lc, lx, ly, c1, x1, x2, y1, y2⟩
  · exact Or.inl ⟨h8, h10, by rw [hs p (Nat.le_refl p)]; exact e⟩
  · obtain ⟨a1, a2, a3, a4⟩ := h1 (Or.inl h7)
    refine Or.inr (Or.inl ?_)
    rw [hs p (Nat.le_refl p), hs (cx p) (by omega), hs (cy p) (by omega), a1, a2, a3, a4]
    exact ⟨h7, ey, ex, es, lx, ly, x1, x2, y1, y2⟩
  · obtain ⟨a1, a2, a3, a4⟩ := h1 (Or.inr h11)
    refine Or.inr (Or.inr ?_)
    rw [hs p (Nat.le_refl p), hs (cx p) (by omega), hs (cy p) (by omega), hs (cc p) (by omega), a1, a2, a3, a4, h2 h11]
    exact ⟨h11, ey, ex, ec, es, lc, lx, ly, c1, x1, x2, y1, y2⟩
theorem fa_LCch {k st el ju cc cx cy : Nat → Nat} {p : Nat} (h : fa_LC k st el ju cc cx cy p) : (k p ≤ 7 ∨ k p = 11 → cx p < p ∧ cy p < p) ∧ (k p = 11 → cc p < p) := by
  rcases h with ⟨h8, h10, e⟩ | ⟨h7, ey, ex, es, lx, ly, x1, x2, y1, y2⟩ | ⟨h11, ey, ex, ec, es, lc, lx, ly, c1, x1, x2, y1, y2⟩
  · exact ⟨fun h => by omega, fun h => by omega⟩
  · exact ⟨fun _ => by omega, fun h => by omega⟩
  · exact ⟨fun _ => by omega, fun _ => by omega⟩
theorem fa_LCst {k st el ju cc cx cy : Nat → Nat} {p : Nat} (h : fa_LC k st el ju cc cx cy p) : st p ≤ p := by
  rcases h with ⟨h8, h10, e⟩ | ⟨h7, ey, ex, es, lx, ly, x1, x2, y1, y2⟩ | ⟨h11, ey, ex, ec, es, lc, lx, ly, c1, x1, x2, y1, y2⟩ <;> omega
theorem fa_LCk {k st el ju cc cx cy : Nat → Nat} {p : Nat} (h : fa_LC k st el ju cc cx cy p) : k p ≤ 11 := by
  rcases h with ⟨h8, h10, e⟩ | ⟨h7, ey, ex, es, lx, ly, x1, x2, y1, y2⟩ | ⟨h11, ey, ex, ec, es, lc, lx, ly, c1, x1, x2, y1, y2⟩ <;> omega
section
variable {k st el ju cc cx cy sk : Nat → Nat} {w m : Nat}
theorem fa_Dmono (D : fa_D k st el ju cc cx cy sk w m) : ∀ j i, i < j → j < w → sk i < sk j := by
  intro j
  induction j with
  | zero => intro i h; omega
  | succ j ih =>
    intro i hi hj
    obtain ⟨e, l, _⟩ := D.2.2.1 (j + 1) hj
    have e' : st (sk (j + 1)) = sk j + 1 := e
    by_cases h : i = j
    · subst h; omega
    · have := ih i (by omega) (by omega); omega
theorem fa_Dge (D : fa_D k st el ju cc cx cy sk w m) : ∀ i, i < w → i ≤ sk i := by
  intro i
  induction i with
  | zero => intro _; omega
  | succ i ih =>
    intro h
    have := fa_Dmono D (i + 1) i (by omega) h
    have := ih (by omega)
    omega
theorem fa_Dw (D : fa_D k st el ju cc cx cy sk w m) : w ≤ m := by
  by_cases h : w = 0
  · omega
  · have h1 := fa_Dge D (w - 1) (by omega)
    have h2 := (D.2.2.1 (w - 1) (by omega)).2.2.1
    omega
theorem fa_Dbnd (D : fa_D k st el ju cc cx cy sk w m) : ∀ i, i ≤ w → fa_Bnd sk i ≤ m := by
  intro i hi
  cases i with
  | zero => exact Nat.zero_le _
  | succ i =>
    have h2 := (D.2.2.1 i (by omega)).2.2.1
    show sk i + 1 ≤ m
    omega
theorem fa_Bndc {sk sk' : Nat → Nat} {w : Nat} (h : ∀ i, i < w → sk' i = sk i) : ∀ i, i ≤ w → fa_Bnd sk' i = fa_Bnd sk i := by
  intro i hi
  cases i with
  | zero => rfl
  | succ i => show sk' i + 1 = sk i + 1; rw [h i (by omega)]
theorem fa_Dpush {k' st' el' ju' cc' cx' cy' sk' : Nat → Nat} {w' : Nat} (D : fa_D k st el ju cc cx cy sk w m) (hm : m < 14) (hw : w' ≤ w)
    (hk : ∀ p, p < m → k' p = k p ∧ st' p = st p ∧ cc' p = cc p ∧ cx' p = cx p ∧ cy' p = cy p)
    (he : ∀ p, p < m → (∀ i, w' ≤ i → i < w → sk i ≠ p) → el' p = el p ∧ ju' p = ju p)
    (hs : ∀ i, i < w' → sk' i = sk i) (hsm : sk' w' = m) (hem : el' m = 0) (hjm : ju' m = 0) (hst : st' m = fa_Bnd sk w')
    (hLC : fa_LC k' st' el' ju' cc' cx' cy' m)
    (hch1 : k' m ≤ 7 ∨ k' m = 11 → ∀ i, i < w' → sk i ≠ cx' m ∧ sk i ≠ cy' m) (hch2 : k' m = 11 → ∀ i, i < w' → sk i ≠ cc' m) :
    fa_D k' st' el' ju' cc' cx' cy' sk' (w' + 1) (m + 1) := by
  have hb := fa_Bndc hs
  refine ⟨by omega, by show sk' w' + 1 = m + 1; omega, ?_, ?_, ?_⟩
  · intro i hi
    by_cases h : i = w'
    · subst h
      have := fa_Dbnd D i hw
      rw [hsm, hst, hb i (Nat.le_refl i)]
      exact ⟨rfl, this, by omega, hem, hjm⟩
    · have hi' : i < w' := by omega
      obtain ⟨a1, a2, a3, a4, a5⟩ := D.2.2.1 i (by omega)
      obtain ⟨b1, b2⟩ := he (sk i) a3 (fun j hj hj' => by have := fa_Dmono D j i (by omega) hj'; omega)
      rw [hs i hi', hb i (by omega), (hk (sk i) a3).2.1, b1, b2]
      exact ⟨a1, a2, by omega, a4, a5⟩
  · intro p hp
    by_cases h : p = m
    · subst h; exact hLC
    · have hp' : p < m := by omega
      have hl := D.2.2.2.1 p hp'
      have hc := fa_LCch hl
      have hn := D.2.2.2.2 p hp'
      obtain ⟨a1, a2, a3, a4, a5⟩ := hk p hp'
      refine fa_LCc hl a1 a3 a4 a5 (fun q hq => (hk q (by omega)).2.1) (fun h => ?_) (fun h => ?_)
      · obtain ⟨l1, l2⟩ := hc.1 h
        obtain ⟨b1, b2⟩ := he (cx p) (by omega) (fun i _ hi => ((hn i hi).1 h).1)
        obtain ⟨b3, b4⟩ := he (cy p) (by omega) (fun i _ hi => ((hn i hi).1 h).2)
        exact ⟨b1, b2, b3, b4⟩
      · have l1 := hc.2 h
        exact (he (cc p) (by omega) (fun i _ hi => (hn i hi).2 h)).1
  · intro p hp i hi
    by_cases h : p = m
    · subst h
      have hc := fa_LCch hLC
      by_cases hi' : i = w'
      · subst hi'
        rw [hsm]
        exact ⟨fun h => by have := hc.1 h; omega, fun h => by have := hc.2 h; omega⟩
      · rw [hs i (by omega)]
        exact ⟨fun h => hch1 h i (by omega), fun h => hch2 h i (by omega)⟩
    · have hp' : p < m := by omega
      have hl := D.2.2.2.1 p hp'
      have hc := fa_LCch hl
      obtain ⟨a1, a2, a3, a4, a5⟩ := hk p hp'
      rw [a1, a3, a4, a5]
      by_cases hi' : i = w'
      · subst hi'
        rw [hsm]
        exact ⟨fun h => by have := hc.1 h; omega, fun h => by have := hc.2 h; omega⟩
      · rw [hs i (by omega)]
        exact D.2.2.2.2 p hp' i (by omega)
theorem fa_D0 (k st el ju cc cx cy sk : Nat → Nat) : fa_D k st el ju cc cx cy sk 0 0 :=
  ⟨by omega, rfl, fun _ h => by omega, fun _ h => by omega, fun _ h => by omega⟩
theorem fa_Dbody (D : fa_D k st el ju cc cx cy sk 1 m) : fa_Bd k st el ju cc cx cy m := by
  obtain ⟨h1, h2, h3, h4, _⟩ := D
  have e : sk 0 + 1 = m := h2
  obtain ⟨a1, a2, a3, a4, a5⟩ := h3 0 (by omega)
  have e' : m - 1 = sk 0 := by omega
  unfold fa_Bd
  rw [e']
  exact ⟨by omega, h1, a1, a4, a5, h4⟩
/-- a constant, first or second -/
theorem fa_Dleaf {kv : Nat} (D : fa_D k st el ju cc cx cy sk w m) (hm : m < 14) (h8 : 8 ≤ kv) (h10 : kv ≤ 10) (c1 c2 c3 : Nat) :
    fa_D (fa_u k m kv) (fa_u st m m) (fa_u el m 0) (fa_u ju m 0) (fa_u cc m c1) (fa_u cx m c2) (fa_u cy m c3) (fa_u sk w m) (w + 1) (m + 1) := by
  have hs : fa_u st m m m = fa_Bnd sk w := fa_us.trans D.2.1.symm
  refine fa_Dpush D hm (Nat.le_refl w) (fun p hp => ?_) (fun p hp _ => ?_) (fun i hi => fa_un (by omega)) fa_us fa_us fa_us hs ?_ ?_ ?_
  · have : p ≠ m := by omega
    exact ⟨fa_un this, fa_un this, fa_un this, fa_un this, fa_un this⟩
  · have : p ≠ m := by omega
    exact ⟨fa_un this, fa_un this⟩
  · refine Or.inl ?_
    rw [fa_us, fa_us]
    exact ⟨h8, h10, rfl⟩
  · rw [fa_us]; intro h; omega
  · rw [fa_us]; intro h; omega
/-- two -/
theorem fa_Dtwo {kv c1 : Nat} (D : fa_D k st el ju cc cx cy sk (w + 2) m) (hm : m < 14) (h7 : kv ≤ 7) :
    fa_D (fa_u k m kv) (fa_u st m (st (sk w))) (fa_u el m 0) (fa_u ju m 0) (fa_u cc m c1) (fa_u cx m (sk w)) (fa_u cy m (sk (w + 1))) (fa_u sk w m) (w + 1) (m + 1) := by
  obtain ⟨x1, x2, x3, x4, x5⟩ := D.2.2.1 w (by omega)
  obtain ⟨y1, y2, y3, y4, y5⟩ := D.2.2.1 (w + 1) (by omega)
  have y1' : st (sk (w + 1)) = sk w + 1 := y1
  have ym : sk (w + 1) + 1 = m := D.2.1
  have nx : sk w ≠ m := by omega
  have ny : sk (w + 1) ≠ m := by omega
  refine fa_Dpush D hm (by omega) (fun p hp => ?_) (fun p hp _ => ?_) (fun i hi => fa_un (by omega)) fa_us fa_us fa_us (by rw [fa_us]; exact x1) ?_ ?_ ?_
  · have : p ≠ m := by omega
    exact ⟨fa_un this, fa_un this, fa_un this, fa_un this, fa_un this⟩
  · have : p ≠ m := by omega
    exact ⟨fa_un this, fa_un this⟩
  · refine Or.inr (Or.inl ?_)
    rw [fa_us, fa_us, fa_us, fa_us, fa_un nx, fa_un ny, fa_un nx, fa_un nx, fa_un ny, fa_un ny]
    exact ⟨h7, ym, y1'.symm, rfl, x2, y2, x4, x5, y4, y5⟩
  · intro _ i hi
    rw [fa_us, fa_us]
    have := fa_Dmono D w i hi (by omega)
    have := fa_Dmono D (w + 1) i (by omega) (by omega)
    omega
  · rw [fa_us]; intro h; omega
/-- choose -/
theorem fa_Dchoose (D : fa_D k st el ju cc cx cy sk (w + 3) m) (hm : m < 14) :
    fa_D (fa_u k m 11) (fa_u st m (st (sk w))) (fa_u (fa_u el (sk w) (sk (w + 1) + 1)) m 0) (fa_u (fa_u ju (sk (w + 1)) m) m 0) (fa_u cc m (sk w)) (fa_u cx m (sk (w + 1))) (fa_u cy m (sk (w + 2))) (fa_u sk w m) (w + 1) (m + 1) := by
  obtain ⟨c1, c2, c3, c4, c5⟩ := D.2.2.1 w (by omega)
  obtain ⟨x1, x2, x3, x4, x5⟩ := D.2.2.1 (w + 1) (by omega)
  obtain ⟨y1, y2, y3, y4, y5⟩ := D.2.2.1 (w + 2) (by omega)
  have x1' : st (sk (w + 1)) = sk w + 1 := x1
  have y1' : st (sk (w + 2)) = sk (w + 1) + 1 := y1
  have ym : sk (w + 2) + 1 = m := D.2.1
  have nc : sk w ≠ m := by omega
  have nx : sk (w + 1) ≠ m := by omega
  have ny : sk (w + 2) ≠ m := by omega
  have ncx : sk (w + 1) ≠ sk w := by omega
  have ncy : sk (w + 2) ≠ sk w := by omega
  have nxy : sk (w + 2) ≠ sk (w + 1) := by omega
  refine fa_Dpush D hm (by omega) (fun p hp => ?_) (fun p hp hn => ?_) (fun i hi => fa_un (by omega)) fa_us fa_us fa_us (by rw [fa_us]; exact c1) ?_ ?_ ?_
  · have : p ≠ m := by omega
    exact ⟨fa_un this, fa_un this, fa_un this, fa_un this, fa_un this⟩
  · have : p ≠ m := by omega
    have n1 := (hn w (by omega) (by omega)).symm
    have n2 := (hn (w + 1) (by omega) (by omega)).symm
    exact ⟨(fa_un this).trans (fa_un n1), (fa_un this).trans (fa_un n2)⟩
  · refine Or.inr (Or.inr ?_)
    simp only [fa_us, fa_un nc, fa_un nx, fa_un ny, fa_un ncx, fa_un ncy, fa_un nxy]
    exact ⟨by trivial, ym, y1'.symm, x1'.symm, by trivial, c2, x2, y2, by trivial, x4, by trivial, y4, y5⟩
  · intro _ i hi
    rw [fa_us, fa_us]
    have := fa_Dmono D (w + 1) i (by omega) (by omega)
    have := fa_Dmono D (w + 2) i (by omega) (by omega)
    omega
  · intro _ i hi
    rw [fa_us]
    have := fa_Dmono D w i hi (by omega)
    omega
end
