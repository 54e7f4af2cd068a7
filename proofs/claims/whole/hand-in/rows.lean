section
/-- the evaluator that both sides are held against: rows of terms by function and place, a count of calls, a count a function -/
def fa_bind (r : Option Int32 × Nat × (Nat → Int32)) (k : Int32 → Nat → (Nat → Int32) → Option Int32 × Nat × (Nat → Int32)) : Option Int32 × Nat × (Nat → Int32) :=
  match r with
  | (none, n, c) => (none, n, c)
  | (some v, n, c) => k v n c
def fa_comb (k : Nat) (x y : Int32) : Int32 := if k = 0 then x + y else if k = 1 then x - y else if k = 2 then x * y else if x < y then 1 else 0
section
variable (kd : Nat → Nat → Nat) (nm : Nat → Nat → Int32) (cc cx cy : Nat → Nat → Nat) (sz : Nat → Nat)
def fa_ev : Nat → Nat → Nat → Int32 → Int32 → Nat → (Nat → Int32) → Option Int32 × Nat × (Nat → Int32)
  | 0, _, _, _, _, n, c => (none, n, c)
  | F + 1, g, p, a, b, n, c =>
    if kd g p = 8 then (some (nm g p), n, c)
    else if kd g p = 9 then (some a, n, c)
    else if kd g p = 10 then (some b, n, c)
    else if kd g p = 11 then
      fa_bind (fa_ev F g (cc g p) a b n c) (fun v n1 c1 => if v = 0 then fa_ev F g (cy g p) a b n1 c1 else fa_ev F g (cx g p) a b n1 c1)
    else fa_bind (fa_ev F g (cx g p) a b n c) (fun x n1 c1 => fa_bind (fa_ev F g (cy g p) a b n1 c1) (fun y n2 c2 =>
      if kd g p < 4 then (some (fa_comb (kd g p) x y), n2, c2)
      else if 60 ≤ n2 then (none, n2, c2)
      else fa_ev F (kd g p - 4) (sz (kd g p - 4) - 1) x y (n2 + 1) (upd c2 (kd g p - 4) (c2 (kd g p - 4) + 1))))
variable {kd nm cc cx cy sz}
variable {F g p n n1 n2 : Nat} {a b x y v : Int32} {c c1 c2 : Nat → Int32}
theorem fa_ev8 (h : kd g p = 8) : fa_ev kd nm cc cx cy sz (F + 1) g p a b n c = (some (nm g p), n, c) := by
  rw [fa_ev, if_pos h]
theorem fa_ev9 (h : kd g p = 9) : fa_ev kd nm cc cx cy sz (F + 1) g p a b n c = (some a, n, c) := by
  rw [fa_ev, if_neg (by omega), if_pos h]
theorem fa_ev10 (h : kd g p = 10) : fa_ev kd nm cc cx cy sz (F + 1) g p a b n c = (some b, n, c) := by
  rw [fa_ev, if_neg (by omega), if_neg (by omega), if_pos h]
theorem fa_evHn (h : kd g p = 11) (e1 : fa_ev kd nm cc cx cy sz F g (cc g p) a b n c = (none, n1, c1)) : fa_ev kd nm cc cx cy sz (F + 1) g p a b n c = (none, n1, c1) := by
  rw [fa_ev, if_neg (by omega), if_neg (by omega), if_neg (by omega), if_pos h, e1]; rfl
theorem fa_evHz (h : kd g p = 11) (e1 : fa_ev kd nm cc cx cy sz F g (cc g p) a b n c = (some v, n1, c1)) (hv : v = 0) : fa_ev kd nm cc cx cy sz (F + 1) g p a b n c = fa_ev kd nm cc cx cy sz F g (cy g p) a b n1 c1 := by
  rw [fa_ev, if_neg (by omega), if_neg (by omega), if_neg (by omega), if_pos h, e1]
  exact if_pos hv
theorem fa_evHx (h : kd g p = 11) (e1 : fa_ev kd nm cc cx cy sz F g (cc g p) a b n c = (some v, n1, c1)) (hv : ¬ v = 0) : fa_ev kd nm cc cx cy sz (F + 1) g p a b n c = fa_ev kd nm cc cx cy sz F g (cx g p) a b n1 c1 := by
  rw [fa_ev, if_neg (by omega), if_neg (by omega), if_neg (by omega), if_pos h, e1]
  exact if_neg hv
theorem fa_evT (h : kd g p ≤ 7) : fa_ev kd nm cc cx cy sz (F + 1) g p a b n c = fa_bind (fa_ev kd nm cc cx cy sz F g (cx g p) a b n c) (fun x n1 c1 => fa_bind (fa_ev kd nm cc cx cy sz F g (cy g p) a b n1 c1) (fun y n2 c2 =>
      if kd g p < 4 then (some (fa_comb (kd g p) x y), n2, c2)
      else if 60 ≤ n2 then (none, n2, c2)
      else fa_ev kd nm cc cx cy sz F (kd g p - 4) (sz (kd g p - 4) - 1) x y (n2 + 1) (upd c2 (kd g p - 4) (c2 (kd g p - 4) + 1)))) := by
  rw [fa_ev, if_neg (by omega), if_neg (by omega), if_neg (by omega), if_neg (by omega)]
theorem fa_evTn (h : kd g p ≤ 7) (e1 : fa_ev kd nm cc cx cy sz F g (cx g p) a b n c = (none, n1, c1)) : fa_ev kd nm cc cx cy sz (F + 1) g p a b n c = (none, n1, c1) := by
  rw [fa_evT h, e1]; rfl
theorem fa_evTm (h : kd g p ≤ 7) (e1 : fa_ev kd nm cc cx cy sz F g (cx g p) a b n c = (some x, n1, c1)) (e2 : fa_ev kd nm cc cx cy sz F g (cy g p) a b n1 c1 = (none, n2, c2)) : fa_ev kd nm cc cx cy sz (F + 1) g p a b n c = (none, n2, c2) := by
  rw [fa_evT h, e1]
  show fa_bind (fa_ev kd nm cc cx cy sz F g (cy g p) a b n1 c1) _ = _
  rw [e2]; rfl
theorem fa_evTs (h : kd g p ≤ 7) (e1 : fa_ev kd nm cc cx cy sz F g (cx g p) a b n c = (some x, n1, c1)) (e2 : fa_ev kd nm cc cx cy sz F g (cy g p) a b n1 c1 = (some y, n2, c2)) : fa_ev kd nm cc cx cy sz (F + 1) g p a b n c =
      (if kd g p < 4 then (some (fa_comb (kd g p) x y), n2, c2)
      else if 60 ≤ n2 then (none, n2, c2)
      else fa_ev kd nm cc cx cy sz F (kd g p - 4) (sz (kd g p - 4) - 1) x y (n2 + 1) (upd c2 (kd g p - 4) (c2 (kd g p - 4) + 1))) := by
  rw [fa_evT h, e1]
  show fa_bind (fa_ev kd nm cc cx cy sz F g (cy g p) a b n1 c1) _ = _
  rw [e2]; rfl
theorem fa_evTo (h : kd g p < 4) (e1 : fa_ev kd nm cc cx cy sz F g (cx g p) a b n c = (some x, n1, c1)) (e2 : fa_ev kd nm cc cx cy sz F g (cy g p) a b n1 c1 = (some y, n2, c2)) : fa_ev kd nm cc cx cy sz (F + 1) g p a b n c = (some (fa_comb (kd g p) x y), n2, c2) := by
  rw [fa_evTs (by omega) e1 e2, if_pos h]
theorem fa_evTt (h : kd g p ≤ 7) (h4 : ¬ kd g p < 4) (h60 : 60 ≤ n2) (e1 : fa_ev kd nm cc cx cy sz F g (cx g p) a b n c = (some x, n1, c1)) (e2 : fa_ev kd nm cc cx cy sz F g (cy g p) a b n1 c1 = (some y, n2, c2)) : fa_ev kd nm cc cx cy sz (F + 1) g p a b n c = (none, n2, c2) := by
  rw [fa_evTs h e1 e2, if_neg h4, if_pos h60]
theorem fa_evTc (h : kd g p ≤ 7) (h4 : ¬ kd g p < 4) (h60 : ¬ 60 ≤ n2) (e1 : fa_ev kd nm cc cx cy sz F g (cx g p) a b n c = (some x, n1, c1)) (e2 : fa_ev kd nm cc cx cy sz F g (cy g p) a b n1 c1 = (some y, n2, c2)) : fa_ev kd nm cc cx cy sz (F + 1) g p a b n c = fa_ev kd nm cc cx cy sz F (kd g p - 4) (sz (kd g p - 4) - 1) x y (n2 + 1) (upd c2 (kd g p - 4) (c2 (kd g p - 4) + 1)) := by
  rw [fa_evTs h e1 e2, if_neg h4, if_neg h60]
end
/-- what holds at one place of a row: its parts stand before it in order, and the marks of choose stand at its C and X -/
def fa_LC (k st el ju cc cx cy : Nat → Nat) (p : Nat) : Prop :=
  (8 ≤ k p ∧ k p ≤ 10 ∧ st p = p) ∨
  (k p ≤ 7 ∧ cy p + 1 = p ∧ cx p + 1 = st (cy p) ∧ st p = st (cx p) ∧ st (cx p) ≤ cx p ∧ st (cy p) ≤ cy p ∧ el (cx p) = 0 ∧ ju (cx p) = 0 ∧ el (cy p) = 0 ∧ ju (cy p) = 0) ∨
  (k p = 11 ∧ cy p + 1 = p ∧ cx p + 1 = st (cy p) ∧ cc p + 1 = st (cx p) ∧ st p = st (cc p) ∧ st (cc p) ≤ cc p ∧ st (cx p) ≤ cx p ∧ st (cy p) ≤ cy p ∧ el (cc p) = cx p + 1 ∧ el (cx p) = 0 ∧ ju (cx p) = p ∧ el (cy p) = 0 ∧ ju (cy p) = 0)
/-- a whole body -/
def fa_Bd (k st el ju cc cx cy : Nat → Nat) (z : Nat) : Prop :=
  0 < z ∧ z ≤ 14 ∧ st (z - 1) = 0 ∧ el (z - 1) = 0 ∧ ju (z - 1) = 0 ∧ ∀ p, p < z → fa_LC k st el ju cc cx cy p
/-- where the machine stands once the value v of place p is known -/
def fa_G (el ju : Nat → Nat → Nat) (L : Nat → List (Nat × Int32 × Int32 × Nat) → List Int32 → Nat → (Nat → Int32) → Prop) (s g : Nat) (a b : Int32) (p : Nat) (fr : List (Nat × Int32 × Int32 × Nat)) (v : Int32) (vs : List Int32) (n : Nat) (c : Nat → Int32) : Prop :=
  L s ((g, a, b, if el g p = 0 then (if ju g p = 0 then p + 1 else ju g p) else (if v = 0 then el g p else p + 1)) :: fr) (if el g p = 0 then v :: vs else vs) n c
section
variable {el ju : Nat → Nat → Nat} {L : Nat → List (Nat × Int32 × Int32 × Nat) → List Int32 → Nat → (Nat → Int32) → Prop} {s g : Nat} {a b : Int32} {p : Nat} {fr : List (Nat × Int32 × Int32 × Nat)} {v : Int32} {vs : List Int32} {n : Nat} {c : Nat → Int32}
theorem fa_G0 (he : el g p = 0) (hj : ju g p = 0) : fa_G el ju L s g a b p fr v vs n c = L s ((g, a, b, p + 1) :: fr) (v :: vs) n c := by
  unfold fa_G; rw [if_pos he, if_pos hj, if_pos he]
theorem fa_Gj (he : el g p = 0) (hj : ¬ ju g p = 0) : fa_G el ju L s g a b p fr v vs n c = L s ((g, a, b, ju g p) :: fr) (v :: vs) n c := by
  unfold fa_G; rw [if_pos he, if_neg hj, if_pos he]
theorem fa_Gz (he : ¬ el g p = 0) (hv : v = 0) : fa_G el ju L s g a b p fr v vs n c = L s ((g, a, b, el g p) :: fr) vs n c := by
  unfold fa_G; rw [if_neg he, if_pos hv, if_neg he]
theorem fa_Gx (he : ¬ el g p = 0) (hv : ¬ v = 0) : fa_G el ju L s g a b p fr v vs n c = L s ((g, a, b, p + 1) :: fr) vs n c := by
  unfold fa_G; rw [if_neg he, if_neg hv, if_neg he]
end
set_option maxHeartbeats 1000000 in
theorem fa_sim (kd : Nat → Nat → Nat) (nm : Nat → Nat → Int32) (cc cx cy : Nat → Nat → Nat) (sz : Nat → Nat) (st el ju : Nat → Nat → Nat)
    (L : Nat → List (Nat × Int32 × Int32 × Nat) → List Int32 → Nat → (Nat → Int32) → Prop) (T : Nat → (Nat → Int32) → Prop)
    (hW : ∀ g, g < 4 → fa_Bd (kd g) (st g) (el g) (ju g) (cc g) (cx g) (cy g) (sz g))
    (hC : ∀ (s g : Nat) (a b : Int32) (p : Nat) (fr : List (Nat × Int32 × Int32 × Nat)) (vs : List Int32) (n : Nat) (c : Nat → Int32), s < 900 → g < 4 → p < sz g → kd g p = 8 → vs.length < 840 → fr.length < 60 → fa_G el ju L (s + 1) g a b p fr (nm g p) vs n c → L s ((g, a, b, p) :: fr) vs n c)
    (hF : ∀ (s g : Nat) (a b : Int32) (p : Nat) (fr : List (Nat × Int32 × Int32 × Nat)) (vs : List Int32) (n : Nat) (c : Nat → Int32), s < 900 → g < 4 → p < sz g → kd g p = 9 → vs.length < 840 → fr.length < 60 → fa_G el ju L (s + 1) g a b p fr a vs n c → L s ((g, a, b, p) :: fr) vs n c)
    (hS : ∀ (s g : Nat) (a b : Int32) (p : Nat) (fr : List (Nat × Int32 × Int32 × Nat)) (vs : List Int32) (n : Nat) (c : Nat → Int32), s < 900 → g < 4 → p < sz g → kd g p = 10 → vs.length < 840 → fr.length < 60 → fa_G el ju L (s + 1) g a b p fr b vs n c → L s ((g, a, b, p) :: fr) vs n c)
    (hH : ∀ (s g : Nat) (a b : Int32) (p : Nat) (fr : List (Nat × Int32 × Int32 × Nat)) (v : Int32) (vs : List Int32) (n : Nat) (c : Nat → Int32), s < 900 → g < 4 → p < sz g → kd g p = 11 → vs.length < 840 → fr.length < 60 → fa_G el ju L (s + 1) g a b p fr v vs n c → L s ((g, a, b, p) :: fr) (v :: vs) n c)
    (hT : ∀ (s g : Nat) (a b : Int32) (p : Nat) (fr : List (Nat × Int32 × Int32 × Nat)) (x y : Int32) (vs : List Int32) (n : Nat) (c : Nat → Int32), s < 900 → g < 4 → p < sz g → kd g p < 4 → vs.length < 839 → fr.length < 60 → fa_G el ju L (s + 1) g a b p fr (fa_comb (kd g p) x y) vs n c → L s ((g, a, b, p) :: fr) (y :: x :: vs) n c)
    (hK : ∀ (s g : Nat) (a b : Int32) (p : Nat) (fr : List (Nat × Int32 × Int32 × Nat)) (x y : Int32) (vs : List Int32) (n : Nat) (c : Nat → Int32), s < 900 → g < 4 → p < sz g → kd g p ≤ 7 → ¬ kd g p < 4 → n < 60 → vs.length < 839 → fr.length + 1 ≤ n → L (s + 1) ((kd g p - 4, x, y, 0) :: (g, a, b, p) :: fr) vs (n + 1) (upd c (kd g p - 4) (c (kd g p - 4) + 1)) → L s ((g, a, b, p) :: fr) (y :: x :: vs) n c)
    (hX : ∀ (s g : Nat) (a b : Int32) (p : Nat) (fr : List (Nat × Int32 × Int32 × Nat)) (x y : Int32) (vs : List Int32) (n : Nat) (c : Nat → Int32), s < 900 → g < 4 → p < sz g → kd g p ≤ 7 → ¬ kd g p < 4 → n = 60 → vs.length < 839 → fr.length < 60 → T n c → L s ((g, a, b, p) :: fr) (y :: x :: vs) n c)
    (hL : ∀ (s g : Nat) (a b : Int32) (p : Nat) (g' : Nat) (a' b' : Int32) (p' : Nat) (fr : List (Nat × Int32 × Int32 × Nat)) (v : Int32) (vs : List Int32) (n : Nat) (c : Nat → Int32), s < 900 → g < 4 → p = sz g → g' < 4 → p' < sz g' → vs.length < 840 → fr.length < 59 → fa_G el ju L (s + 1) g' a' b' p' fr v vs n c → L s ((g, a, b, p) :: (g', a', b', p') :: fr) (v :: vs) n c) :
    ∀ (F g p : Nat) (a b : Int32) (n : Nat) (c : Nat → Int32) (s : Nat) (fr : List (Nat × Int32 × Int32 × Nat)) (vs : List Int32),
      (60 - n) * 15 + p + 1 ≤ F → n ≤ 60 → g < 4 → p < sz g → s + (p + 1 - st g p) ≤ 15 * n → vs.length ≤ 14 * fr.length + st g p → fr.length + 1 ≤ n →
      (∀ (v : Int32) (n' : Nat) (c' : Nat → Int32) (s' : Nat), fa_ev kd nm cc cx cy sz F g p a b n c = (some v, n', c') → n ≤ n' → n' ≤ 60 → s' ≤ s + (p + 1 - st g p) + 15 * (n' - n) → fa_G el ju L s' g a b p fr v vs n' c') →
      (∀ (n' : Nat) (c' : Nat → Int32), fa_ev kd nm cc cx cy sz F g p a b n c = (none, n', c') → T n' c') →
      L s ((g, a, b, st g p) :: fr) vs n c := by
  intro F
  induction F with
  | zero => intro g p a b n c s fr vs h; omega
  | succ F ih =>
    intro g p a b n c s fr vs hF' hn hg hp hs hv hf KS KN
    obtain ⟨z0, z14, zs, ze, zj, hLC⟩ := hW g hg
    rcases hLC p hp with ⟨h8, h10, e⟩ | ⟨h7, ey, ex, es, lx, ly, x1, x2, y1, y2⟩ | ⟨h11, ey, ex, ec, es, lc, lx, ly, c1, x1, x2, y1, y2⟩
    · rw [e]
      by_cases k8 : kd g p = 8
      · exact hC s g a b p fr vs n c (by omega) hg hp k8 (by omega) (by omega) (KS _ _ _ _ (fa_ev8 k8) (Nat.le_refl _) hn (by omega))
      by_cases k9 : kd g p = 9
      · exact hF s g a b p fr vs n c (by omega) hg hp k9 (by omega) (by omega) (KS _ _ _ _ (fa_ev9 k9) (Nat.le_refl _) hn (by omega))
      have k10 : kd g p = 10 := by omega
      exact hS s g a b p fr vs n c (by omega) hg hp k10 (by omega) (by omega) (KS _ _ _ _ (fa_ev10 k10) (Nat.le_refl _) hn (by omega))
    · rw [es]
      refine ih g (cx g p) a b n c s fr vs (by omega) hn hg (by omega) (by omega) (by omega) hf ?_ ?_
      · intro vx n1 c1 s1 e1 hn1 hn1' hs1
        rw [fa_G0 x1 x2, ex]
        refine ih g (cy g p) a b n1 c1 s1 fr (vx :: vs) (by omega) hn1' hg (by omega) (by omega) (by rw [List.length_cons]; omega) (by omega) ?_ ?_
        · intro vy n2 c2 s2 e2 hn2 hn2' hs2
          rw [fa_G0 y1 y2, ey]
          by_cases k4 : kd g p < 4
          · exact hT s2 g a b p fr vx vy vs n2 c2 (by omega) hg hp k4 (by omega) (by omega) (KS _ _ _ _ (fa_evTo k4 e1 e2) (by omega) hn2' (by omega))
          by_cases h60 : 60 ≤ n2
          · exact hX s2 g a b p fr vx vy vs n2 c2 (by omega) hg hp h7 k4 (by omega) (by omega) (by omega) (KN _ _ (fa_evTt h7 k4 h60 e1 e2))
          have hev := fa_evTc h7 k4 h60 e1 e2
          have hg' : kd g p - 4 < 4 := by omega
          obtain ⟨w0, w14, ws, we, wj, _⟩ := hW (kd g p - 4) hg'
          refine hK s2 g a b p fr vx vy vs n2 c2 (by omega) hg hp h7 k4 (by omega) (by omega) (by omega) ?_
          rw [← ws]
          refine ih (kd g p - 4) (sz (kd g p - 4) - 1) vx vy (n2 + 1) _ (s2 + 1) ((g, a, b, p) :: fr) vs (by omega) (by omega) hg' (by omega) (by omega) (by rw [List.length_cons]; omega) (by rw [List.length_cons]; omega) ?_ ?_
          · intro v n3 c3 s3 e3 hn3 hn3' hs3
            rw [fa_G0 we wj]
            exact hL s3 (kd g p - 4) vx vy (sz (kd g p - 4) - 1 + 1) g a b p fr v vs n3 c3 (by omega) hg' (by omega) hg hp (by omega) (by omega) (KS _ _ _ _ (hev.trans e3) (by omega) hn3' (by omega))
          · intro n3 c3 e3
            exact KN _ _ (hev.trans e3)
        · intro n2 c2 e2
          exact KN _ _ (fa_evTm h7 e1 e2)
      · intro n1 c1 e1
        exact KN _ _ (fa_evTn h7 e1)
    · rw [es]
      refine ih g (cc g p) a b n c s fr vs (by omega) hn hg (by omega) (by omega) (by omega) hf ?_ ?_
      · intro vc n1 c1' s1 e1 hn1 hn1' hs1
        have he : ¬ el g (cc g p) = 0 := by omega
        by_cases hz : vc = 0
        · have hev := fa_evHz h11 e1 hz
          rw [fa_Gz he hz, c1, ex]
          refine ih g (cy g p) a b n1 c1' s1 fr vs (by omega) hn1' hg (by omega) (by omega) (by omega) (by omega) ?_ ?_
          · intro vy n2 c2 s2 e2 hn2 hn2' hs2
            rw [fa_G0 y1 y2, ey]
            exact hH s2 g a b p fr vy vs n2 c2 (by omega) hg hp h11 (by omega) (by omega) (KS _ _ _ _ (hev.trans e2) (by omega) hn2' (by omega))
          · intro n2 c2 e2
            exact KN _ _ (hev.trans e2)
        · have hev := fa_evHx h11 e1 hz
          rw [fa_Gx he hz, ec]
          refine ih g (cx g p) a b n1 c1' s1 fr vs (by omega) hn1' hg (by omega) (by omega) (by omega) (by omega) ?_ ?_
          · intro vy n2 c2 s2 e2 hn2 hn2' hs2
            rw [fa_Gj x1 (by omega), x2]
            exact hH s2 g a b p fr vy vs n2 c2 (by omega) hg hp h11 (by omega) (by omega) (KS _ _ _ _ (hev.trans e2) (by omega) hn2' (by omega))
          · intro n2 c2 e2
            exact KN _ _ (hev.trans e2)
      · intro n1 c1' e1
        exact KN _ _ (fa_evHn h11 e1)
end
section
/-- the draft row: w terms on the stack, m made; their spans lie end to end, and no term of the stack is a part of another -/
def fa_u (f : Nat → Nat) (i v : Nat) : Nat → Nat := fun j => if j = i then v else f j
theorem fa_us {f : Nat → Nat} {i v : Nat} : fa_u f i v i = v := if_pos rfl
theorem fa_un {f : Nat → Nat} {i v j : Nat} (h : j ≠ i) : fa_u f i v j = f j := if_neg h
def fa_Bnd (sk : Nat → Nat) : Nat → Nat
  | 0 => 0
  | i + 1 => sk i + 1
def fa_D (k st el ju cc cx cy sk : Nat → Nat) (w m : Nat) : Prop :=
  m ≤ 14 ∧ fa_Bnd sk w = m ∧
  (∀ i, i < w → st (sk i) = fa_Bnd sk i ∧ st (sk i) ≤ sk i ∧ sk i < m ∧ el (sk i) = 0 ∧ ju (sk i) = 0) ∧
  (∀ p, p < m → fa_LC k st el ju cc cx cy p) ∧
  (∀ p, p < m → ∀ i, i < w → (k p ≤ 7 ∨ k p = 11 → sk i ≠ cx p ∧ sk i ≠ cy p) ∧ (k p = 11 → sk i ≠ cc p))
theorem fa_LCc {k st el ju cc cx cy k' st' el' ju' cc' cx' cy' : Nat → Nat} {p : Nat} (h : fa_LC k st el ju cc cx cy p)
    (hk : k' p = k p) (hc : cc' p = cc p) (hx : cx' p = cx p) (hy : cy' p = cy p) (hs : ∀ q, q ≤ p → st' q = st q)
    (h1 : k p ≤ 7 ∨ k p = 11 → el' (cx p) = el (cx p) ∧ ju' (cx p) = ju (cx p) ∧ el' (cy p) = el (cy p) ∧ ju' (cy p) = ju (cy p))
    (h2 : k p = 11 → el' (cc p) = el (cc p)) : fa_LC k' st' el' ju' cc' cx' cy' p := by
  unfold fa_LC
  rw [hk, hc, hx, hy]
  rcases h with ⟨h8, h10, e⟩ | ⟨h7, ey, ex, es, lx, ly, x1, x2, y1, y2⟩ | ⟨h11, ey, ex, ec, es, lc, lx, ly, c1, x1, x2, y1, y2⟩
  · exact Or.inl ⟨h8, h10, by rw [hs p (Nat.le_refl p)]; exact e⟩
  · obtain ⟨a1, a2, a3, a4⟩ := h1 (Or.inl h7)
    refine Or.inr (Or.inl ?_)
    rw [hs p (Nat.le_refl p), hs (cx p) (by omega), hs (cy p) (by omega), a1, a2, a3, a4]
    exact ⟨h7, ey, ex, es, lx, ly, x1, x2, y1, y2⟩
  · obtain ⟨a1, a2, a3, a4⟩ := h1 (Or.inr h11)
    refine Or.inr (Or.inr ?_)
    rw [hs p (Nat.le_refl p), hs (cx p) (by omega), hs (cy p) (by omega), hs (cc p) (by omega), a1, a2, a3, a4, h2 h11]
    exact ⟨h11, ey, ex, ec, es, lc, lx, ly, c1, x1, x2, y1, y2⟩
theorem fa_LCch {k st el ju cc cx cy : Nat → Nat} {p : Nat} (h : fa_LC k st el ju cc cx cy p) : (k p ≤ 7 ∨ k p = 11 → cx p < p ∧ cy p < p) ∧ (k p = 11 → cc p < p) := by
  rcases h with ⟨h8, h10, e⟩ | ⟨h7, ey, ex, es, lx, ly, x1, x2, y1, y2⟩ | ⟨h11, ey, ex, ec, es, lc, lx, ly, c1, x1, x2, y1, y2⟩
  · exact ⟨fun h => by omega, fun h => by omega⟩
  · exact ⟨fun _ => by omega, fun h => by omega⟩
  · exact ⟨fun _ => by omega, fun _ => by omega⟩
theorem fa_LCst {k st el ju cc cx cy : Nat → Nat} {p : Nat} (h : fa_LC k st el ju cc cx cy p) : st p ≤ p := by
  rcases h with ⟨h8, h10, e⟩ | ⟨h7, ey, ex, es, lx, ly, x1, x2, y1, y2⟩ | ⟨h11, ey, ex, ec, es, lc, lx, ly, c1, x1, x2, y1, y2⟩ <;> omega
theorem fa_LCk {k st el ju cc cx cy : Nat → Nat} {p : Nat} (h : fa_LC k st el ju cc cx cy p) : k p ≤ 11 := by
  rcases h with ⟨h8, h10, e⟩ | ⟨h7, ey, ex, es, lx, ly, x1, x2, y1, y2⟩ | ⟨h11, ey, ex, ec, es, lc, lx, ly, c1, x1, x2, y1, y2⟩ <;> omega
section
variable {k st el ju cc cx cy sk : Nat → Nat} {w m : Nat}
theorem fa_Dmono (D : fa_D k st el ju cc cx cy sk w m) : ∀ j i, i < j → j < w → sk i < sk j := by
  intro j
  induction j with
  | zero => intro i h; omega
  | succ j ih =>
    intro i hi hj
    obtain ⟨e, l, _⟩ := D.2.2.1 (j + 1) hj
    have e' : st (sk (j + 1)) = sk j + 1 := e
    by_cases h : i = j
    · subst h; omega
    · have := ih i (by omega) (by omega); omega
theorem fa_Dge (D : fa_D k st el ju cc cx cy sk w m) : ∀ i, i < w → i ≤ sk i := by
  intro i
  induction i with
  | zero => intro _; omega
  | succ i ih =>
    intro h
    have := fa_Dmono D (i + 1) i (by omega) h
    have := ih (by omega)
    omega
theorem fa_Dw (D : fa_D k st el ju cc cx cy sk w m) : w ≤ m := by
  by_cases h : w = 0
  · omega
  · have h1 := fa_Dge D (w - 1) (by omega)
    have h2 := (D.2.2.1 (w - 1) (by omega)).2.2.1
    omega
theorem fa_Dbnd (D : fa_D k st el ju cc cx cy sk w m) : ∀ i, i ≤ w → fa_Bnd sk i ≤ m := by
  intro i hi
  cases i with
  | zero => exact Nat.zero_le _
  | succ i =>
    have h2 := (D.2.2.1 i (by omega)).2.2.1
    show sk i + 1 ≤ m
    omega
theorem fa_Bndc {sk sk' : Nat → Nat} {w : Nat} (h : ∀ i, i < w → sk' i = sk i) : ∀ i, i ≤ w → fa_Bnd sk' i = fa_Bnd sk i := by
  intro i hi
  cases i with
  | zero => rfl
  | succ i => show sk' i + 1 = sk i + 1; rw [h i (by omega)]
theorem fa_Dpush {k' st' el' ju' cc' cx' cy' sk' : Nat → Nat} {w' : Nat} (D : fa_D k st el ju cc cx cy sk w m) (hm : m < 14) (hw : w' ≤ w)
    (hk : ∀ p, p < m → k' p = k p ∧ st' p = st p ∧ cc' p = cc p ∧ cx' p = cx p ∧ cy' p = cy p)
    (he : ∀ p, p < m → (∀ i, w' ≤ i → i < w → sk i ≠ p) → el' p = el p ∧ ju' p = ju p)
    (hs : ∀ i, i < w' → sk' i = sk i) (hsm : sk' w' = m) (hem : el' m = 0) (hjm : ju' m = 0) (hst : st' m = fa_Bnd sk w')
    (hLC : fa_LC k' st' el' ju' cc' cx' cy' m)
    (hch1 : k' m ≤ 7 ∨ k' m = 11 → ∀ i, i < w' → sk i ≠ cx' m ∧ sk i ≠ cy' m) (hch2 : k' m = 11 → ∀ i, i < w' → sk i ≠ cc' m) :
    fa_D k' st' el' ju' cc' cx' cy' sk' (w' + 1) (m + 1) := by
  have hb := fa_Bndc hs
  refine ⟨by omega, by show sk' w' + 1 = m + 1; omega, ?_, ?_, ?_⟩
  · intro i hi
    by_cases h : i = w'
    · subst h
      have := fa_Dbnd D i hw
      rw [hsm, hst, hb i (Nat.le_refl i)]
      exact ⟨rfl, this, by omega, hem, hjm⟩
    · have hi' : i < w' := by omega
      obtain ⟨a1, a2, a3, a4, a5⟩ := D.2.2.1 i (by omega)
      obtain ⟨b1, b2⟩ := he (sk i) a3 (fun j hj hj' => by have := fa_Dmono D j i (by omega) hj'; omega)
      rw [hs i hi', hb i (by omega), (hk (sk i) a3).2.1, b1, b2]
      exact ⟨a1, a2, by omega, a4, a5⟩
  · intro p hp
    by_cases h : p = m
    · subst h; exact hLC
    · have hp' : p < m := by omega
      have hl := D.2.2.2.1 p hp'
      have hc := fa_LCch hl
      have hn := D.2.2.2.2 p hp'
      obtain ⟨a1, a2, a3, a4, a5⟩ := hk p hp'
      refine fa_LCc hl a1 a3 a4 a5 (fun q hq => (hk q (by omega)).2.1) (fun h => ?_) (fun h => ?_)
      · obtain ⟨l1, l2⟩ := hc.1 h
        obtain ⟨b1, b2⟩ := he (cx p) (by omega) (fun i _ hi => ((hn i hi).1 h).1)
        obtain ⟨b3, b4⟩ := he (cy p) (by omega) (fun i _ hi => ((hn i hi).1 h).2)
        exact ⟨b1, b2, b3, b4⟩
      · have l1 := hc.2 h
        exact (he (cc p) (by omega) (fun i _ hi => (hn i hi).2 h)).1
  · intro p hp i hi
    by_cases h : p = m
    · subst h
      have hc := fa_LCch hLC
      by_cases hi' : i = w'
      · subst hi'
        rw [hsm]
        exact ⟨fun h => by have := hc.1 h; omega, fun h => by have := hc.2 h; omega⟩
      · rw [hs i (by omega)]
        exact ⟨fun h => hch1 h i (by omega), fun h => hch2 h i (by omega)⟩
    · have hp' : p < m := by omega
      have hl := D.2.2.2.1 p hp'
      have hc := fa_LCch hl
      obtain ⟨a1, a2, a3, a4, a5⟩ := hk p hp'
      rw [a1, a3, a4, a5]
      by_cases hi' : i = w'
      · subst hi'
        rw [hsm]
        exact ⟨fun h => by have := hc.1 h; omega, fun h => by have := hc.2 h; omega⟩
      · rw [hs i (by omega)]
        exact D.2.2.2.2 p hp' i (by omega)
theorem fa_D0 (k st el ju cc cx cy sk : Nat → Nat) : fa_D k st el ju cc cx cy sk 0 0 :=
  ⟨by omega, rfl, fun _ h => by omega, fun _ h => by omega, fun _ h => by omega⟩
theorem fa_Dbody (D : fa_D k st el ju cc cx cy sk 1 m) : fa_Bd k st el ju cc cx cy m := by
  obtain ⟨h1, h2, h3, h4, _⟩ := D
  have e : sk 0 + 1 = m := h2
  obtain ⟨a1, a2, a3, a4, a5⟩ := h3 0 (by omega)
  have e' : m - 1 = sk 0 := by omega
  unfold fa_Bd
  rw [e']
  exact ⟨by omega, h1, a1, a4, a5, h4⟩
/-- a constant, first or second -/
theorem fa_Dleaf {kv : Nat} (D : fa_D k st el ju cc cx cy sk w m) (hm : m < 14) (h8 : 8 ≤ kv) (h10 : kv ≤ 10) (c1 c2 c3 : Nat) :
    fa_D (fa_u k m kv) (fa_u st m m) (fa_u el m 0) (fa_u ju m 0) (fa_u cc m c1) (fa_u cx m c2) (fa_u cy m c3) (fa_u sk w m) (w + 1) (m + 1) := by
  have hs : fa_u st m m m = fa_Bnd sk w := fa_us.trans D.2.1.symm
  refine fa_Dpush D hm (Nat.le_refl w) (fun p hp => ?_) (fun p hp _ => ?_) (fun i hi => fa_un (by omega)) fa_us fa_us fa_us hs ?_ ?_ ?_
  · have : p ≠ m := by omega
    exact ⟨fa_un this, fa_un this, fa_un this, fa_un this, fa_un this⟩
  · have : p ≠ m := by omega
    exact ⟨fa_un this, fa_un this⟩
  · refine Or.inl ?_
    rw [fa_us, fa_us]
    exact ⟨h8, h10, rfl⟩
  · rw [fa_us]; intro h; omega
  · rw [fa_us]; intro h; omega
/-- two -/
theorem fa_Dtwo {kv c1 : Nat} (D : fa_D k st el ju cc cx cy sk (w + 2) m) (hm : m < 14) (h7 : kv ≤ 7) :
    fa_D (fa_u k m kv) (fa_u st m (st (sk w))) (fa_u el m 0) (fa_u ju m 0) (fa_u cc m c1) (fa_u cx m (sk w)) (fa_u cy m (sk (w + 1))) (fa_u sk w m) (w + 1) (m + 1) := by
  obtain ⟨x1, x2, x3, x4, x5⟩ := D.2.2.1 w (by omega)
  obtain ⟨y1, y2, y3, y4, y5⟩ := D.2.2.1 (w + 1) (by omega)
  have y1' : st (sk (w + 1)) = sk w + 1 := y1
  have ym : sk (w + 1) + 1 = m := D.2.1
  have nx : sk w ≠ m := by omega
  have ny : sk (w + 1) ≠ m := by omega
  refine fa_Dpush D hm (by omega) (fun p hp => ?_) (fun p hp _ => ?_) (fun i hi => fa_un (by omega)) fa_us fa_us fa_us (by rw [fa_us]; exact x1) ?_ ?_ ?_
  · have : p ≠ m := by omega
    exact ⟨fa_un this, fa_un this, fa_un this, fa_un this, fa_un this⟩
  · have : p ≠ m := by omega
    exact ⟨fa_un this, fa_un this⟩
  · refine Or.inr (Or.inl ?_)
    rw [fa_us, fa_us, fa_us, fa_us, fa_un nx, fa_un ny, fa_un nx, fa_un nx, fa_un ny, fa_un ny]
    exact ⟨h7, ym, y1'.symm, rfl, x2, y2, x4, x5, y4, y5⟩
  · intro _ i hi
    rw [fa_us, fa_us]
    have := fa_Dmono D w i hi (by omega)
    have := fa_Dmono D (w + 1) i (by omega) (by omega)
    omega
  · rw [fa_us]; intro h; omega
/-- choose -/
theorem fa_Dchoose (D : fa_D k st el ju cc cx cy sk (w + 3) m) (hm : m < 14) :
    fa_D (fa_u k m 11) (fa_u st m (st (sk w))) (fa_u (fa_u el (sk w) (sk (w + 1) + 1)) m 0) (fa_u (fa_u ju (sk (w + 1)) m) m 0) (fa_u cc m (sk w)) (fa_u cx m (sk (w + 1))) (fa_u cy m (sk (w + 2))) (fa_u sk w m) (w + 1) (m + 1) := by
  obtain ⟨c1, c2, c3, c4, c5⟩ := D.2.2.1 w (by omega)
  obtain ⟨x1, x2, x3, x4, x5⟩ := D.2.2.1 (w + 1) (by omega)
  obtain ⟨y1, y2, y3, y4, y5⟩ := D.2.2.1 (w + 2) (by omega)
  have x1' : st (sk (w + 1)) = sk w + 1 := x1
  have y1' : st (sk (w + 2)) = sk (w + 1) + 1 := y1
  have ym : sk (w + 2) + 1 = m := D.2.1
  have nc : sk w ≠ m := by omega
  have nx : sk (w + 1) ≠ m := by omega
  have ny : sk (w + 2) ≠ m := by omega
  have ncx : sk (w + 1) ≠ sk w := by omega
  have ncy : sk (w + 2) ≠ sk w := by omega
  have nxy : sk (w + 2) ≠ sk (w + 1) := by omega
  refine fa_Dpush D hm (by omega) (fun p hp => ?_) (fun p hp hn => ?_) (fun i hi => fa_un (by omega)) fa_us fa_us fa_us (by rw [fa_us]; exact c1) ?_ ?_ ?_
  · have : p ≠ m := by omega
    exact ⟨fa_un this, fa_un this, fa_un this, fa_un this, fa_un this⟩
  · have : p ≠ m := by omega
    have n1 := (hn w (by omega) (by omega)).symm
    have n2 := (hn (w + 1) (by omega) (by omega)).symm
    exact ⟨(fa_un this).trans (fa_un n1), (fa_un this).trans (fa_un n2)⟩
  · refine Or.inr (Or.inr ?_)
    simp only [fa_us, fa_un nc, fa_un nx, fa_un ny, fa_un ncx, fa_un ncy, fa_un nxy]
    exact ⟨by trivial, ym, y1'.symm, x1'.symm, by trivial, c2, x2, y2, by trivial, x4, by trivial, y4, y5⟩
  · intro _ i hi
    rw [fa_us, fa_us]
    have := fa_Dmono D (w + 1) i (by omega) (by omega)
    have := fa_Dmono D (w + 2) i (by omega) (by omega)
    omega
  · intro _ i hi
    rw [fa_us]
    have := fa_Dmono D w i hi (by omega)
    omega
end
end
section
theorem pk_us {f : Nat → Int32} {k : Nat} {x : Int32} : upd f k x k = x := if_pos rfl
theorem pk_un {f : Nat → Int32} {k j : Nat} {x : Int32} (h : j ≠ k) : upd f k x j = f j := if_neg h
theorem pk_sub {a b : Nat} (h : b ≤ a) : nI a - nI b = nI (a - b) := by
  obtain ⟨c, rfl⟩ : ∃ c, a = c + b := ⟨a - b, by omega⟩
  rw [← nI_add, Int32.add_sub_cancel, Nat.add_sub_cancel]
theorem pk_m1 (n : Nat) : nI (n + 1) + (-1) = nI n := by
  rw [← nI_1, Int32.add_assoc, show (1 : Int32) + (-1) = 0 from rfl, Int32.add_zero]
theorem pk_mul (a b : Nat) : nI a * nI b = nI (a * b) := (Int32.ofNat_mul a b).symm
theorem pk_div {a d : Nat} (ha : a < 2 ^ 31) (h0 : 0 < d) (hd : d < 2 ^ 31) : nI a / nI d = nI (a / d) := by
  apply Int32.toInt_inj.mp
  rw [lg_idiv_nonneg (by rw [nI_toInt ha]; omega) (by rw [nI_toInt hd]; omega), nI_toInt ha, nI_toInt hd, nI_toInt (Nat.lt_of_le_of_lt (Nat.div_le_self a d) ha)]
  first | rfl | exact (Int.natCast_ediv _ _).symm
theorem pk_rem {a d : Nat} (ha : a < 2 ^ 31) (h0 : 0 < d) (hd : d < 2 ^ 31) : nI a - nI a / nI d * nI d = nI (a % d) := by
  rw [pk_div ha h0 hd, pk_mul, pk_sub (Nat.div_mul_le_self a d)]
  exact congrArg nI (by have := Nat.div_add_mod' a d; omega)
theorem pk_ix (x : Int32) {n : Nat} (hn : n < 2 ^ 31) : x < 0 ∨ nI n ≤ x ∨ ∃ j : Nat, j < n ∧ x = nI j := by
  by_cases h : x < 0
  · exact Or.inl h
  · obtain ⟨j, hj, rfl⟩ := nI_of h
    by_cases h2 : j < n
    · exact Or.inr (Or.inr ⟨j, h2, rfl⟩)
    · exact Or.inr (Or.inl (nI_le (by omega) hj))
theorem xq_ix (g p : Nat) : nI g * 14 + nI p = nI (14 * g + p) := by
  show nI g * nI 14 + nI p = _
  rw [pk_mul, nI_add, Nat.mul_comm]
section
variable {f_stacked f_made f_open f_valueCount f_enteredInAll f_tired : Int32} {a_kind a_number a_elsePlace a_jumpPlace a_bodySize a_stack a_openFunction a_openFirst a_openSecond a_openPlace a_values a_entered : Nat → Int32}
theorem xq_at_kind {post : Int32 → Prop} {x y : Int32} (j : Nat) (hx : x = nI j) (h : j < 70) (hy : a_kind j = y) (hp : post y) : wpX_at__kind post (f_stacked, f_made, f_open, f_valueCount, f_enteredInAll, f_tired, a_kind, a_number, a_elsePlace, a_jumpPlace, a_bodySize, a_stack, a_openFunction, a_openFirst, a_openSecond, a_openPlace, a_values, a_entered) x := by
  subst hx hy
  exact br_f (nI_pos (by omega)) (br_f (nI_ge h (by decide)) ⟨vp_in_nI h (by decide), by rw [nI_clamp (by omega)]; exact hp⟩)
theorem xq_put_kind {post : SX → Prop} {x y : Int32} (j : Nat) (hx : x = nI j) (h : j < 70) (hp : post (f_stacked, f_made, f_open, f_valueCount, f_enteredInAll, f_tired, upd a_kind j y, a_number, a_elsePlace, a_jumpPlace, a_bodySize, a_stack, a_openFunction, a_openFirst, a_openSecond, a_openPlace, a_values, a_entered)) : wpX_put__kind post (f_stacked, f_made, f_open, f_valueCount, f_enteredInAll, f_tired, a_kind, a_number, a_elsePlace, a_jumpPlace, a_bodySize, a_stack, a_openFunction, a_openFirst, a_openSecond, a_openPlace, a_values, a_entered) x y := by
  subst hx
  exact br_f (nI_pos (by omega)) (br_f (nI_ge h (by decide)) ⟨vp_in_nI h (by decide), nm_r (by rw [nI_clamp (by omega)]) hp⟩)
theorem xq_at_number {post : Int32 → Prop} {x y : Int32} (j : Nat) (hx : x = nI j) (h : j < 70) (hy : a_number j = y) (hp : post y) : wpX_at__number post (f_stacked, f_made, f_open, f_valueCount, f_enteredInAll, f_tired, a_kind, a_number, a_elsePlace, a_jumpPlace, a_bodySize, a_stack, a_openFunction, a_openFirst, a_openSecond, a_openPlace, a_values, a_entered) x := by
  subst hx hy
  exact br_f (nI_pos (by omega)) (br_f (nI_ge h (by decide)) ⟨vp_in_nI h (by decide), by rw [nI_clamp (by omega)]; exact hp⟩)
theorem xq_put_number {post : SX → Prop} {x y : Int32} (j : Nat) (hx : x = nI j) (h : j < 70) (hp : post (f_stacked, f_made, f_open, f_valueCount, f_enteredInAll, f_tired, a_kind, upd a_number j y, a_elsePlace, a_jumpPlace, a_bodySize, a_stack, a_openFunction, a_openFirst, a_openSecond, a_openPlace, a_values, a_entered)) : wpX_put__number post (f_stacked, f_made, f_open, f_valueCount, f_enteredInAll, f_tired, a_kind, a_number, a_elsePlace, a_jumpPlace, a_bodySize, a_stack, a_openFunction, a_openFirst, a_openSecond, a_openPlace, a_values, a_entered) x y := by
  subst hx
  exact br_f (nI_pos (by omega)) (br_f (nI_ge h (by decide)) ⟨vp_in_nI h (by decide), nm_r (by rw [nI_clamp (by omega)]) hp⟩)
theorem xq_at_elsePlace {post : Int32 → Prop} {x y : Int32} (j : Nat) (hx : x = nI j) (h : j < 70) (hy : a_elsePlace j = y) (hp : post y) : wpX_at__elsePlace post (f_stacked, f_made, f_open, f_valueCount, f_enteredInAll, f_tired, a_kind, a_number, a_elsePlace, a_jumpPlace, a_bodySize, a_stack, a_openFunction, a_openFirst, a_openSecond, a_openPlace, a_values, a_entered) x := by
  subst hx hy
  exact br_f (nI_pos (by omega)) (br_f (nI_ge h (by decide)) ⟨vp_in_nI h (by decide), by rw [nI_clamp (by omega)]; exact hp⟩)
theorem xq_put_elsePlace {post : SX → Prop} {x y : Int32} (j : Nat) (hx : x = nI j) (h : j < 70) (hp : post (f_stacked, f_made, f_open, f_valueCount, f_enteredInAll, f_tired, a_kind, a_number, upd a_elsePlace j y, a_jumpPlace, a_bodySize, a_stack, a_openFunction, a_openFirst, a_openSecond, a_openPlace, a_values, a_entered)) : wpX_put__elsePlace post (f_stacked, f_made, f_open, f_valueCount, f_enteredInAll, f_tired, a_kind, a_number, a_elsePlace, a_jumpPlace, a_bodySize, a_stack, a_openFunction, a_openFirst, a_openSecond, a_openPlace, a_values, a_entered) x y := by
  subst hx
  exact br_f (nI_pos (by omega)) (br_f (nI_ge h (by decide)) ⟨vp_in_nI h (by decide), nm_r (by rw [nI_clamp (by omega)]) hp⟩)
theorem xq_at_jumpPlace {post : Int32 → Prop} {x y : Int32} (j : Nat) (hx : x = nI j) (h : j < 70) (hy : a_jumpPlace j = y) (hp : post y) : wpX_at__jumpPlace post (f_stacked, f_made, f_open, f_valueCount, f_enteredInAll, f_tired, a_kind, a_number, a_elsePlace, a_jumpPlace, a_bodySize, a_stack, a_openFunction, a_openFirst, a_openSecond, a_openPlace, a_values, a_entered) x := by
  subst hx hy
  exact br_f (nI_pos (by omega)) (br_f (nI_ge h (by decide)) ⟨vp_in_nI h (by decide), by rw [nI_clamp (by omega)]; exact hp⟩)
theorem xq_put_jumpPlace {post : SX → Prop} {x y : Int32} (j : Nat) (hx : x = nI j) (h : j < 70) (hp : post (f_stacked, f_made, f_open, f_valueCount, f_enteredInAll, f_tired, a_kind, a_number, a_elsePlace, upd a_jumpPlace j y, a_bodySize, a_stack, a_openFunction, a_openFirst, a_openSecond, a_openPlace, a_values, a_entered)) : wpX_put__jumpPlace post (f_stacked, f_made, f_open, f_valueCount, f_enteredInAll, f_tired, a_kind, a_number, a_elsePlace, a_jumpPlace, a_bodySize, a_stack, a_openFunction, a_openFirst, a_openSecond, a_openPlace, a_values, a_entered) x y := by
  subst hx
  exact br_f (nI_pos (by omega)) (br_f (nI_ge h (by decide)) ⟨vp_in_nI h (by decide), nm_r (by rw [nI_clamp (by omega)]) hp⟩)
theorem xq_at_stack {post : Int32 → Prop} {x y : Int32} (j : Nat) (hx : x = nI j) (h : j < 14) (hy : a_stack j = y) (hp : post y) : wpX_at__stack post (f_stacked, f_made, f_open, f_valueCount, f_enteredInAll, f_tired, a_kind, a_number, a_elsePlace, a_jumpPlace, a_bodySize, a_stack, a_openFunction, a_openFirst, a_openSecond, a_openPlace, a_values, a_entered) x := by
  subst hx hy
  exact br_f (nI_pos (by omega)) (br_f (nI_ge h (by decide)) ⟨vp_in_nI h (by decide), by rw [nI_clamp (by omega)]; exact hp⟩)
theorem xq_put_stack {post : SX → Prop} {x y : Int32} (j : Nat) (hx : x = nI j) (h : j < 14) (hp : post (f_stacked, f_made, f_open, f_valueCount, f_enteredInAll, f_tired, a_kind, a_number, a_elsePlace, a_jumpPlace, a_bodySize, upd a_stack j y, a_openFunction, a_openFirst, a_openSecond, a_openPlace, a_values, a_entered)) : wpX_put__stack post (f_stacked, f_made, f_open, f_valueCount, f_enteredInAll, f_tired, a_kind, a_number, a_elsePlace, a_jumpPlace, a_bodySize, a_stack, a_openFunction, a_openFirst, a_openSecond, a_openPlace, a_values, a_entered) x y := by
  subst hx
  exact br_f (nI_pos (by omega)) (br_f (nI_ge h (by decide)) ⟨vp_in_nI h (by decide), nm_r (by rw [nI_clamp (by omega)]) hp⟩)
theorem xq_at_bodySize {post : Int32 → Prop} {x y : Int32} (j : Nat) (hx : x = nI j) (h : j < 4) (hy : a_bodySize j = y) (hp : post y) : wpX_at__bodySize post (f_stacked, f_made, f_open, f_valueCount, f_enteredInAll, f_tired, a_kind, a_number, a_elsePlace, a_jumpPlace, a_bodySize, a_stack, a_openFunction, a_openFirst, a_openSecond, a_openPlace, a_values, a_entered) x := by
  subst hx hy
  exact br_f (nI_pos (by omega)) (br_f (nI_ge h (by decide)) ⟨vp_in_nI h (by decide), by rw [nI_clamp (by omega)]; exact hp⟩)
theorem xq_put_bodySize {post : SX → Prop} {x y : Int32} (j : Nat) (hx : x = nI j) (h : j < 4) (hp : post (f_stacked, f_made, f_open, f_valueCount, f_enteredInAll, f_tired, a_kind, a_number, a_elsePlace, a_jumpPlace, upd a_bodySize j y, a_stack, a_openFunction, a_openFirst, a_openSecond, a_openPlace, a_values, a_entered)) : wpX_put__bodySize post (f_stacked, f_made, f_open, f_valueCount, f_enteredInAll, f_tired, a_kind, a_number, a_elsePlace, a_jumpPlace, a_bodySize, a_stack, a_openFunction, a_openFirst, a_openSecond, a_openPlace, a_values, a_entered) x y := by
  subst hx
  exact br_f (nI_pos (by omega)) (br_f (nI_ge h (by decide)) ⟨vp_in_nI h (by decide), nm_r (by rw [nI_clamp (by omega)]) hp⟩)
theorem xq_at_entered {post : Int32 → Prop} {x y : Int32} (j : Nat) (hx : x = nI j) (h : j < 4) (hy : a_entered j = y) (hp : post y) : wpX_at__entered post (f_stacked, f_made, f_open, f_valueCount, f_enteredInAll, f_tired, a_kind, a_number, a_elsePlace, a_jumpPlace, a_bodySize, a_stack, a_openFunction, a_openFirst, a_openSecond, a_openPlace, a_values, a_entered) x := by
  subst hx hy
  exact br_f (nI_pos (by omega)) (br_f (nI_ge h (by decide)) ⟨vp_in_nI h (by decide), by rw [nI_clamp (by omega)]; exact hp⟩)
theorem xq_put_entered {post : SX → Prop} {x y : Int32} (j : Nat) (hx : x = nI j) (h : j < 4) (hp : post (f_stacked, f_made, f_open, f_valueCount, f_enteredInAll, f_tired, a_kind, a_number, a_elsePlace, a_jumpPlace, a_bodySize, a_stack, a_openFunction, a_openFirst, a_openSecond, a_openPlace, a_values, upd a_entered j y)) : wpX_put__entered post (f_stacked, f_made, f_open, f_valueCount, f_enteredInAll, f_tired, a_kind, a_number, a_elsePlace, a_jumpPlace, a_bodySize, a_stack, a_openFunction, a_openFirst, a_openSecond, a_openPlace, a_values, a_entered) x y := by
  subst hx
  exact br_f (nI_pos (by omega)) (br_f (nI_ge h (by decide)) ⟨vp_in_nI h (by decide), nm_r (by rw [nI_clamp (by omega)]) hp⟩)
theorem xq_at_openFunction {post : Int32 → Prop} {x y : Int32} (j : Nat) (hx : x = nI j) (h : j < 60) (hy : a_openFunction j = y) (hp : post y) : wpX_at__openFunction post (f_stacked, f_made, f_open, f_valueCount, f_enteredInAll, f_tired, a_kind, a_number, a_elsePlace, a_jumpPlace, a_bodySize, a_stack, a_openFunction, a_openFirst, a_openSecond, a_openPlace, a_values, a_entered) x := by
  subst hx hy
  exact br_f (nI_pos (by omega)) (br_f (nI_ge h (by decide)) ⟨vp_in_nI h (by decide), by rw [nI_clamp (by omega)]; exact hp⟩)
theorem xq_put_openFunction {post : SX → Prop} {x y : Int32} (j : Nat) (hx : x = nI j) (h : j < 60) (hp : post (f_stacked, f_made, f_open, f_valueCount, f_enteredInAll, f_tired, a_kind, a_number, a_elsePlace, a_jumpPlace, a_bodySize, a_stack, upd a_openFunction j y, a_openFirst, a_openSecond, a_openPlace, a_values, a_entered)) : wpX_put__openFunction post (f_stacked, f_made, f_open, f_valueCount, f_enteredInAll, f_tired, a_kind, a_number, a_elsePlace, a_jumpPlace, a_bodySize, a_stack, a_openFunction, a_openFirst, a_openSecond, a_openPlace, a_values, a_entered) x y := by
  subst hx
  exact br_f (nI_pos (by omega)) (br_f (nI_ge h (by decide)) ⟨vp_in_nI h (by decide), nm_r (by rw [nI_clamp (by omega)]) hp⟩)
theorem xq_at_openFirst {post : Int32 → Prop} {x y : Int32} (j : Nat) (hx : x = nI j) (h : j < 60) (hy : a_openFirst j = y) (hp : post y) : wpX_at__openFirst post (f_stacked, f_made, f_open, f_valueCount, f_enteredInAll, f_tired, a_kind, a_number, a_elsePlace, a_jumpPlace, a_bodySize, a_stack, a_openFunction, a_openFirst, a_openSecond, a_openPlace, a_values, a_entered) x := by
  subst hx hy
  exact br_f (nI_pos (by omega)) (br_f (nI_ge h (by decide)) ⟨vp_in_nI h (by decide), by rw [nI_clamp (by omega)]; exact hp⟩)
theorem xq_put_openFirst {post : SX → Prop} {x y : Int32} (j : Nat) (hx : x = nI j) (h : j < 60) (hp : post (f_stacked, f_made, f_open, f_valueCount, f_enteredInAll, f_tired, a_kind, a_number, a_elsePlace, a_jumpPlace, a_bodySize, a_stack, a_openFunction, upd a_openFirst j y, a_openSecond, a_openPlace, a_values, a_entered)) : wpX_put__openFirst post (f_stacked, f_made, f_open, f_valueCount, f_enteredInAll, f_tired, a_kind, a_number, a_elsePlace, a_jumpPlace, a_bodySize, a_stack, a_openFunction, a_openFirst, a_openSecond, a_openPlace, a_values, a_entered) x y := by
  subst hx
  exact br_f (nI_pos (by omega)) (br_f (nI_ge h (by decide)) ⟨vp_in_nI h (by decide), nm_r (by rw [nI_clamp (by omega)]) hp⟩)
theorem xq_at_openSecond {post : Int32 → Prop} {x y : Int32} (j : Nat) (hx : x = nI j) (h : j < 60) (hy : a_openSecond j = y) (hp : post y) : wpX_at__openSecond post (f_stacked, f_made, f_open, f_valueCount, f_enteredInAll, f_tired, a_kind, a_number, a_elsePlace, a_jumpPlace, a_bodySize, a_stack, a_openFunction, a_openFirst, a_openSecond, a_openPlace, a_values, a_entered) x := by
  subst hx hy
  exact br_f (nI_pos (by omega)) (br_f (nI_ge h (by decide)) ⟨vp_in_nI h (by decide), by rw [nI_clamp (by omega)]; exact hp⟩)
theorem xq_put_openSecond {post : SX → Prop} {x y : Int32} (j : Nat) (hx : x = nI j) (h : j < 60) (hp : post (f_stacked, f_made, f_open, f_valueCount, f_enteredInAll, f_tired, a_kind, a_number, a_elsePlace, a_jumpPlace, a_bodySize, a_stack, a_openFunction, a_openFirst, upd a_openSecond j y, a_openPlace, a_values, a_entered)) : wpX_put__openSecond post (f_stacked, f_made, f_open, f_valueCount, f_enteredInAll, f_tired, a_kind, a_number, a_elsePlace, a_jumpPlace, a_bodySize, a_stack, a_openFunction, a_openFirst, a_openSecond, a_openPlace, a_values, a_entered) x y := by
  subst hx
  exact br_f (nI_pos (by omega)) (br_f (nI_ge h (by decide)) ⟨vp_in_nI h (by decide), nm_r (by rw [nI_clamp (by omega)]) hp⟩)
theorem xq_at_openPlace {post : Int32 → Prop} {x y : Int32} (j : Nat) (hx : x = nI j) (h : j < 60) (hy : a_openPlace j = y) (hp : post y) : wpX_at__openPlace post (f_stacked, f_made, f_open, f_valueCount, f_enteredInAll, f_tired, a_kind, a_number, a_elsePlace, a_jumpPlace, a_bodySize, a_stack, a_openFunction, a_openFirst, a_openSecond, a_openPlace, a_values, a_entered) x := by
  subst hx hy
  exact br_f (nI_pos (by omega)) (br_f (nI_ge h (by decide)) ⟨vp_in_nI h (by decide), by rw [nI_clamp (by omega)]; exact hp⟩)
theorem xq_put_openPlace {post : SX → Prop} {x y : Int32} (j : Nat) (hx : x = nI j) (h : j < 60) (hp : post (f_stacked, f_made, f_open, f_valueCount, f_enteredInAll, f_tired, a_kind, a_number, a_elsePlace, a_jumpPlace, a_bodySize, a_stack, a_openFunction, a_openFirst, a_openSecond, upd a_openPlace j y, a_values, a_entered)) : wpX_put__openPlace post (f_stacked, f_made, f_open, f_valueCount, f_enteredInAll, f_tired, a_kind, a_number, a_elsePlace, a_jumpPlace, a_bodySize, a_stack, a_openFunction, a_openFirst, a_openSecond, a_openPlace, a_values, a_entered) x y := by
  subst hx
  exact br_f (nI_pos (by omega)) (br_f (nI_ge h (by decide)) ⟨vp_in_nI h (by decide), nm_r (by rw [nI_clamp (by omega)]) hp⟩)
theorem xq_at_values {post : Int32 → Prop} {x y : Int32} (j : Nat) (hx : x = nI j) (h : j < 840) (hy : a_values j = y) (hp : post y) : wpX_at__values post (f_stacked, f_made, f_open, f_valueCount, f_enteredInAll, f_tired, a_kind, a_number, a_elsePlace, a_jumpPlace, a_bodySize, a_stack, a_openFunction, a_openFirst, a_openSecond, a_openPlace, a_values, a_entered) x := by
  subst hx hy
  exact br_f (nI_pos (by omega)) (br_f (nI_ge h (by decide)) ⟨vp_in_nI h (by decide), by rw [nI_clamp (by omega)]; exact hp⟩)
theorem xq_put_values {post : SX → Prop} {x y : Int32} (j : Nat) (hx : x = nI j) (h : j < 840) (hp : post (f_stacked, f_made, f_open, f_valueCount, f_enteredInAll, f_tired, a_kind, a_number, a_elsePlace, a_jumpPlace, a_bodySize, a_stack, a_openFunction, a_openFirst, a_openSecond, a_openPlace, upd a_values j y, a_entered)) : wpX_put__values post (f_stacked, f_made, f_open, f_valueCount, f_enteredInAll, f_tired, a_kind, a_number, a_elsePlace, a_jumpPlace, a_bodySize, a_stack, a_openFunction, a_openFirst, a_openSecond, a_openPlace, a_values, a_entered) x y := by
  subst hx
  exact br_f (nI_pos (by omega)) (br_f (nI_ge h (by decide)) ⟨vp_in_nI h (by decide), nm_r (by rw [nI_clamp (by omega)]) hp⟩)
theorem xq_pushTerm {post : Int32 → SX → Prop} {p0 p1 : Int32} (w m : Nat) (hw : w < 14) (hm : m < 14)
    (hp : post (nI (w + 1)) (nI (w + 1), nI (m + 1), f_open, f_valueCount, f_enteredInAll, f_tired, upd a_kind (56 + m) p0, upd a_number (56 + m) p1, upd a_elsePlace (56 + m) 0, upd a_jumpPlace (56 + m) 0, a_bodySize, upd a_stack w (nI m), a_openFunction, a_openFirst, a_openSecond, a_openPlace, a_values, a_entered)) :
    wpX_pushTerm post (nI w, nI m, f_open, f_valueCount, f_enteredInAll, f_tired, a_kind, a_number, a_elsePlace, a_jumpPlace, a_bodySize, a_stack, a_openFunction, a_openFirst, a_openSecond, a_openPlace, a_values, a_entered) p0 p1 := by
  refine nm_r (e' := nI (56 + m)) (nI_add 56 m) ?_
  refine xq_put_kind (56 + m) rfl (by omega) ?_
  refine xq_put_number (56 + m) rfl (by omega) ?_
  refine xq_put_elsePlace (56 + m) rfl (by omega) ?_
  refine xq_put_jumpPlace (56 + m) rfl (by omega) ?_
  refine xq_put_stack w rfl hw ?_
  refine nm_r (e' := nI (w + 1)) (nI_1 w) ?_
  exact nm_r (e' := nI (m + 1)) (nI_1 m) hp
/-- a row copied up to i -/
def fa_cp (f i : Nat) (A : Nat → Int32) : Nat → Int32 := fun q => if 14 * f ≤ q ∧ q < 14 * f + i then A (56 + (q - 14 * f)) else A q
theorem fa_cp0 (f : Nat) (A : Nat → Int32) : fa_cp f 0 A = A := by
  funext q
  exact if_neg (by omega)
theorem fa_cpS (f i : Nat) (A : Nat → Int32) (hf : f < 4) (hi : i < 14) : upd (fa_cp f i A) (14 * f + i) (A (56 + i)) = fa_cp f (i + 1) A := by
  funext q
  unfold upd fa_cp
  by_cases h : q = 14 * f + i
  · rw [if_pos h, if_pos (by omega)]
    congr 1; omega
  · rw [if_neg h]
    by_cases h2 : 14 * f ≤ q ∧ q < 14 * f + i
    · rw [if_pos h2, if_pos (by omega)]
    · rw [if_neg h2, if_neg (by omega)]
theorem fa_cpD (f i j : Nat) (A : Nat → Int32) (hf : f < 4) (hi : i ≤ 14) : fa_cp f i A (56 + j) = A (56 + j) := if_neg (by omega)
theorem xq_cpL_kind {post : SX → Prop} (f : Nat) (hf : f < 4) (H : post (f_stacked, f_made, f_open, f_valueCount, f_enteredInAll, f_tired, fa_cp f 14 a_kind, a_number, a_elsePlace, a_jumpPlace, a_bodySize, a_stack, a_openFunction, a_openFirst, a_openSecond, a_openPlace, a_values, a_entered)) : ∀ d i : Nat, i + d = 14 → wX_copyDraftRow__kind_8 post (nI (14 * f)) (d + 1) (nI i) f_stacked f_made f_open f_valueCount f_enteredInAll f_tired (fa_cp f i a_kind) a_number a_elsePlace a_jumpPlace a_bodySize a_stack a_openFunction a_openFirst a_openSecond a_openPlace a_values a_entered := by
  intro d
  induction d with
  | zero =>
    intro i hi
    have e : i = 14 := by omega
    subst e
    exact br_t (nI_le (Nat.le_refl 14) (by decide)) H
  | succ d ih =>
    intro i hi
    refine br_f (nI_ge (b := 14) (by omega) (by decide)) ?_
    refine xq_at_kind (56 + i) (nI_add 56 i) (by omega) (fa_cpD f i i a_kind hf (by omega)) ?_
    refine xq_put_kind (14 * f + i) (nI_add (14 * f) i) (by omega) ?_
    rw [fa_cpS f i a_kind hf (by omega)]
    exact nm_r (nI_1 i) (ih (i + 1) (by omega))
theorem xq_cp_kind {post : SX → Prop} (f : Nat) (hf : f < 4) (H : post (f_stacked, f_made, f_open, f_valueCount, f_enteredInAll, f_tired, fa_cp f 14 a_kind, a_number, a_elsePlace, a_jumpPlace, a_bodySize, a_stack, a_openFunction, a_openFirst, a_openSecond, a_openPlace, a_values, a_entered)) : wpX_copyDraftRow__kind post (f_stacked, f_made, f_open, f_valueCount, f_enteredInAll, f_tired, a_kind, a_number, a_elsePlace, a_jumpPlace, a_bodySize, a_stack, a_openFunction, a_openFirst, a_openSecond, a_openPlace, a_values, a_entered) (nI f) := by
  refine nm_r (e' := nI (14 * f)) (by show nI f * nI 14 = _; rw [pk_mul, Nat.mul_comm]) ?_
  have h := xq_cpL_kind f hf H 14 0 rfl
  rw [fa_cp0] at h
  exact ⟨15, h⟩
theorem xq_cpL_number {post : SX → Prop} (f : Nat) (hf : f < 4) (H : post (f_stacked, f_made, f_open, f_valueCount, f_enteredInAll, f_tired, a_kind, fa_cp f 14 a_number, a_elsePlace, a_jumpPlace, a_bodySize, a_stack, a_openFunction, a_openFirst, a_openSecond, a_openPlace, a_values, a_entered)) : ∀ d i : Nat, i + d = 14 → wX_copyDraftRow__number_8 post (nI (14 * f)) (d + 1) (nI i) f_stacked f_made f_open f_valueCount f_enteredInAll f_tired a_kind (fa_cp f i a_number) a_elsePlace a_jumpPlace a_bodySize a_stack a_openFunction a_openFirst a_openSecond a_openPlace a_values a_entered := by
  intro d
  induction d with
  | zero =>
    intro i hi
    have e : i = 14 := by omega
    subst e
    exact br_t (nI_le (Nat.le_refl 14) (by decide)) H
  | succ d ih =>
    intro i hi
    refine br_f (nI_ge (b := 14) (by omega) (by decide)) ?_
    refine xq_at_number (56 + i) (nI_add 56 i) (by omega) (fa_cpD f i i a_number hf (by omega)) ?_
    refine xq_put_number (14 * f + i) (nI_add (14 * f) i) (by omega) ?_
    rw [fa_cpS f i a_number hf (by omega)]
    exact nm_r (nI_1 i) (ih (i + 1) (by omega))
theorem xq_cp_number {post : SX → Prop} (f : Nat) (hf : f < 4) (H : post (f_stacked, f_made, f_open, f_valueCount, f_enteredInAll, f_tired, a_kind, fa_cp f 14 a_number, a_elsePlace, a_jumpPlace, a_bodySize, a_stack, a_openFunction, a_openFirst, a_openSecond, a_openPlace, a_values, a_entered)) : wpX_copyDraftRow__number post (f_stacked, f_made, f_open, f_valueCount, f_enteredInAll, f_tired, a_kind, a_number, a_elsePlace, a_jumpPlace, a_bodySize, a_stack, a_openFunction, a_openFirst, a_openSecond, a_openPlace, a_values, a_entered) (nI f) := by
  refine nm_r (e' := nI (14 * f)) (by show nI f * nI 14 = _; rw [pk_mul, Nat.mul_comm]) ?_
  have h := xq_cpL_number f hf H 14 0 rfl
  rw [fa_cp0] at h
  exact ⟨15, h⟩
theorem xq_cpL_elsePlace {post : SX → Prop} (f : Nat) (hf : f < 4) (H : post (f_stacked, f_made, f_open, f_valueCount, f_enteredInAll, f_tired, a_kind, a_number, fa_cp f 14 a_elsePlace, a_jumpPlace, a_bodySize, a_stack, a_openFunction, a_openFirst, a_openSecond, a_openPlace, a_values, a_entered)) : ∀ d i : Nat, i + d = 14 → wX_copyDraftRow__elsePlace_8 post (nI (14 * f)) (d + 1) (nI i) f_stacked f_made f_open f_valueCount f_enteredInAll f_tired a_kind a_number (fa_cp f i a_elsePlace) a_jumpPlace a_bodySize a_stack a_openFunction a_openFirst a_openSecond a_openPlace a_values a_entered := by
  intro d
  induction d with
  | zero =>
    intro i hi
    have e : i = 14 := by omega
    subst e
    exact br_t (nI_le (Nat.le_refl 14) (by decide)) H
  | succ d ih =>
    intro i hi
    refine br_f (nI_ge (b := 14) (by omega) (by decide)) ?_
    refine xq_at_elsePlace (56 + i) (nI_add 56 i) (by omega) (fa_cpD f i i a_elsePlace hf (by omega)) ?_
    refine xq_put_elsePlace (14 * f + i) (nI_add (14 * f) i) (by omega) ?_
    rw [fa_cpS f i a_elsePlace hf (by omega)]
    exact nm_r (nI_1 i) (ih (i + 1) (by omega))
theorem xq_cp_elsePlace {post : SX → Prop} (f : Nat) (hf : f < 4) (H : post (f_stacked, f_made, f_open, f_valueCount, f_enteredInAll, f_tired, a_kind, a_number, fa_cp f 14 a_elsePlace, a_jumpPlace, a_bodySize, a_stack, a_openFunction, a_openFirst, a_openSecond, a_openPlace, a_values, a_entered)) : wpX_copyDraftRow__elsePlace post (f_stacked, f_made, f_open, f_valueCount, f_enteredInAll, f_tired, a_kind, a_number, a_elsePlace, a_jumpPlace, a_bodySize, a_stack, a_openFunction, a_openFirst, a_openSecond, a_openPlace, a_values, a_entered) (nI f) := by
  refine nm_r (e' := nI (14 * f)) (by show nI f * nI 14 = _; rw [pk_mul, Nat.mul_comm]) ?_
  have h := xq_cpL_elsePlace f hf H 14 0 rfl
  rw [fa_cp0] at h
  exact ⟨15, h⟩
theorem xq_cpL_jumpPlace {post : SX → Prop} (f : Nat) (hf : f < 4) (H : post (f_stacked, f_made, f_open, f_valueCount, f_enteredInAll, f_tired, a_kind, a_number, a_elsePlace, fa_cp f 14 a_jumpPlace, a_bodySize, a_stack, a_openFunction, a_openFirst, a_openSecond, a_openPlace, a_values, a_entered)) : ∀ d i : Nat, i + d = 14 → wX_copyDraftRow__jumpPlace_8 post (nI (14 * f)) (d + 1) (nI i) f_stacked f_made f_open f_valueCount f_enteredInAll f_tired a_kind a_number a_elsePlace (fa_cp f i a_jumpPlace) a_bodySize a_stack a_openFunction a_openFirst a_openSecond a_openPlace a_values a_entered := by
  intro d
  induction d with
  | zero =>
    intro i hi
    have e : i = 14 := by omega
    subst e
    exact br_t (nI_le (Nat.le_refl 14) (by decide)) H
  | succ d ih =>
    intro i hi
    refine br_f (nI_ge (b := 14) (by omega) (by decide)) ?_
    refine xq_at_jumpPlace (56 + i) (nI_add 56 i) (by omega) (fa_cpD f i i a_jumpPlace hf (by omega)) ?_
    refine xq_put_jumpPlace (14 * f + i) (nI_add (14 * f) i) (by omega) ?_
    rw [fa_cpS f i a_jumpPlace hf (by omega)]
    exact nm_r (nI_1 i) (ih (i + 1) (by omega))
theorem xq_cp_jumpPlace {post : SX → Prop} (f : Nat) (hf : f < 4) (H : post (f_stacked, f_made, f_open, f_valueCount, f_enteredInAll, f_tired, a_kind, a_number, a_elsePlace, fa_cp f 14 a_jumpPlace, a_bodySize, a_stack, a_openFunction, a_openFirst, a_openSecond, a_openPlace, a_values, a_entered)) : wpX_copyDraftRow__jumpPlace post (f_stacked, f_made, f_open, f_valueCount, f_enteredInAll, f_tired, a_kind, a_number, a_elsePlace, a_jumpPlace, a_bodySize, a_stack, a_openFunction, a_openFirst, a_openSecond, a_openPlace, a_values, a_entered) (nI f) := by
  refine nm_r (e' := nI (14 * f)) (by show nI f * nI 14 = _; rw [pk_mul, Nat.mul_comm]) ?_
  have h := xq_cpL_jumpPlace f hf H 14 0 rfl
  rw [fa_cp0] at h
  exact ⟨15, h⟩
theorem xq_cpTo {post : SX → Prop} (f : Nat) (hf : f < 4) (H : post (f_stacked, f_made, f_open, f_valueCount, f_enteredInAll, f_tired, fa_cp f 14 a_kind, fa_cp f 14 a_number, fa_cp f 14 a_elsePlace, fa_cp f 14 a_jumpPlace, upd a_bodySize f f_made, a_stack, a_openFunction, a_openFirst, a_openSecond, a_openPlace, a_values, a_entered)) : wpX_copyDraftTo post (f_stacked, f_made, f_open, f_valueCount, f_enteredInAll, f_tired, a_kind, a_number, a_elsePlace, a_jumpPlace, a_bodySize, a_stack, a_openFunction, a_openFirst, a_openSecond, a_openPlace, a_values, a_entered) (nI f) := by
  refine xq_cp_kind f hf ?_
  refine xq_cp_number f hf ?_
  refine xq_cp_elsePlace f hf ?_
  refine xq_cp_jumpPlace f hf ?_
  exact xq_put_bodySize f rfl hf H
theorem xq_isF {post : Int32 → Prop} {x : Int32} (h0 : (x < 0 ∨ nI 4 ≤ x) → post 0) (h1 : ∀ f, f < 4 → x = nI f → post 1) : wpX_isFunction post (f_stacked, f_made, f_open, f_valueCount, f_enteredInAll, f_tired, a_kind, a_number, a_elsePlace, a_jumpPlace, a_bodySize, a_stack, a_openFunction, a_openFirst, a_openSecond, a_openPlace, a_values, a_entered) x := by
  rcases pk_ix x (n := 4) (by decide) with h | h | ⟨j, hj, h⟩
  · exact br_t h (h0 (Or.inl h))
  · exact br_c (fun z => h0 (Or.inl z)) (fun _ => br_t h (h0 (Or.inr h)))
  · subst h
    exact br_f (nI_pos (by omega)) (br_f (nI_ge hj (by decide)) (h1 j hj rfl))
theorem xq_enter {post : SX → Prop} {x p1 p2 : Int32} (n t g : Nat) (hx : x = nI g) (hn : n < 60) (ht : t < 60) (hg : g < 4)
    (H : post (f_stacked, f_made, nI (t + 1), f_valueCount, nI (n + 1), f_tired, a_kind, a_number, a_elsePlace, a_jumpPlace, a_bodySize, a_stack, upd a_openFunction t (nI g), upd a_openFirst t p1, upd a_openSecond t p2, upd a_openPlace t (nI 0), a_values, upd a_entered g (a_entered g + 1))) :
    wpX_enter post (f_stacked, f_made, nI t, f_valueCount, nI n, f_tired, a_kind, a_number, a_elsePlace, a_jumpPlace, a_bodySize, a_stack, a_openFunction, a_openFirst, a_openSecond, a_openPlace, a_values, a_entered) x p1 p2 := by
  subst hx
  refine br_t (nI_lt hn (by decide)) ?_
  refine xq_at_entered g rfl hg rfl ?_
  refine xq_put_entered g rfl hg ?_
  refine nm_r (e' := nI (n + 1)) (nI_1 n) ?_
  refine xq_put_openFunction t rfl ht ?_
  refine xq_put_openFirst t rfl ht ?_
  refine xq_put_openSecond t rfl ht ?_
  refine xq_put_openPlace t rfl ht ?_
  exact nm_r (e' := nI (t + 1)) (nI_1 t) H
theorem xq_enterT {post : SX → Prop} {x p1 p2 : Int32} (H : post (f_stacked, f_made, f_open, f_valueCount, nI 60, 1, a_kind, a_number, a_elsePlace, a_jumpPlace, a_bodySize, a_stack, a_openFunction, a_openFirst, a_openSecond, a_openPlace, a_values, a_entered)) : wpX_enter post (f_stacked, f_made, f_open, f_valueCount, nI 60, f_tired, a_kind, a_number, a_elsePlace, a_jumpPlace, a_bodySize, a_stack, a_openFunction, a_openFirst, a_openSecond, a_openPlace, a_values, a_entered) x p1 p2 :=
  br_f (nI_nlt (Nat.le_refl 60) (by decide)) H
theorem xq_pushValue {post : SX → Prop} {x : Int32} (q : Nat) (hq : q < 840) (H : post (f_stacked, f_made, f_open, nI (q + 1), f_enteredInAll, f_tired, a_kind, a_number, a_elsePlace, a_jumpPlace, a_bodySize, a_stack, a_openFunction, a_openFirst, a_openSecond, a_openPlace, upd a_values q x, a_entered)) : wpX_pushValue post (f_stacked, f_made, f_open, nI q, f_enteredInAll, f_tired, a_kind, a_number, a_elsePlace, a_jumpPlace, a_bodySize, a_stack, a_openFunction, a_openFirst, a_openSecond, a_openPlace, a_values, a_entered) x := by
  unfold wpX_pushValue
  refine xq_put_values q rfl hq ?_
  exact nm_r (e' := nI (q + 1)) (nI_1 q) H
theorem xq_combined {post : Int32 → Prop} {x y z : Int32} (k : Nat) (hk : k < 4) (hz : z = nI k) (H : post (fa_comb k x y)) : wpX_combined post (f_stacked, f_made, f_open, f_valueCount, f_enteredInAll, f_tired, a_kind, a_number, a_elsePlace, a_jumpPlace, a_bodySize, a_stack, a_openFunction, a_openFirst, a_openSecond, a_openPlace, a_values, a_entered) z x y := by
  subst hz
  refine br_f (nI_pos (by omega)) (br_f (nI_nlt (a := 3) (b := k) (by omega) (by decide)) ?_)
  unfold fa_comb at H
  by_cases h0 : k = 0
  · rw [if_pos h0] at H; subst h0
    exact br_t rfl H
  rw [if_neg h0] at H
  refine br_f (nI_ne0 (by omega) (by omega)) ?_
  by_cases h1 : k = 1
  · rw [if_pos h1] at H; subst h1
    exact br_t rfl H
  rw [if_neg h1] at H
  refine br_f (fun z => h1 ((nI_eq (by omega) (by decide)).mp z)) ?_
  by_cases h2 : k = 2
  · rw [if_pos h2] at H; subst h2
    exact br_t rfl H
  rw [if_neg h2] at H
  refine br_f (fun z => h2 ((nI_eq (by omega) (by decide)).mp z)) ?_
  have h3 : k = 3 := by omega
  subst h3
  refine br_t rfl ?_
  by_cases hxy : x < y
  · rw [if_pos hxy] at H
    exact br_f (Int32.not_le.mpr hxy) H
  · rw [if_neg hxy] at H
    exact br_t (Int32.not_lt.mp hxy) H
theorem xq_goOn {post : SX → Prop} {v : Int32} (t g p e ju q : Nat) (ht : t < 60) (hg : a_openFunction t = nI g) (hp : a_openPlace t = nI p) (hj : 14 * g + p < 70)
    (he : a_elsePlace (14 * g + p) = nI e) (hju : a_jumpPlace (14 * g + p) = nI ju) (he' : e < 99) (hju' : ju < 99) (hq : q < 840) (hv : a_values q = v)
    (H : post (f_stacked, f_made, nI (t + 1), nI (if e = 0 then q + 1 else q), f_enteredInAll, f_tired, a_kind, a_number, a_elsePlace, a_jumpPlace, a_bodySize, a_stack, a_openFunction, a_openFirst, a_openSecond, upd a_openPlace t (nI (if e = 0 then (if ju = 0 then p + 1 else ju) else (if v = 0 then e else p + 1))), a_values, a_entered)) :
    wpX_goOn post (f_stacked, f_made, nI (t + 1), nI (q + 1), f_enteredInAll, f_tired, a_kind, a_number, a_elsePlace, a_jumpPlace, a_bodySize, a_stack, a_openFunction, a_openFirst, a_openSecond, a_openPlace, a_values, a_entered) := by
  unfold wpX_goOn
  refine xq_at_openFunction t (nI_pred t) ht hg ?_
  refine xq_at_openPlace t (nI_pred t) ht hp ?_
  refine nm_r (e' := nI (14 * g + p)) (xq_ix g p) ?_
  refine xq_at_elsePlace (14 * g + p) rfl hj he ?_
  refine xq_at_jumpPlace (14 * g + p) rfl hj hju ?_
  refine nm_r (e' := nI (p + 1)) (nI_1 p) ?_
  by_cases e0 : e = 0
  · subst e0
    rw [if_pos rfl, if_pos rfl] at H
    refine br_t rfl ?_
    by_cases j0 : ju = 0
    · subst j0
      rw [if_pos rfl] at H
      refine br_t rfl ?_
      exact xq_put_openPlace t (nI_pred t) ht H
    · rw [if_neg j0] at H
      refine br_f (nI_ne0 (by omega) (by omega)) ?_
      exact xq_put_openPlace t (nI_pred t) ht H
  · rw [if_neg e0, if_neg e0] at H
    refine br_f (nI_ne0 (by omega) (by omega)) ?_
    refine nm_r (e' := nI q) (nI_pred q) ?_
    refine xq_at_values q rfl hq hv ?_
    by_cases v0 : v = 0
    · rw [if_pos v0] at H
      refine br_t v0 ?_
      exact xq_put_openPlace t (nI_pred t) ht H
    · rw [if_neg v0] at H
      refine br_f v0 ?_
      exact xq_put_openPlace t (nI_pred t) ht H
def fa_z4 (E : Nat → Int32) : Nat → Int32 := upd (upd (upd (upd E 0 0) 1 0) 2 0) 3 0
theorem fa_z4e (E : Nat → Int32) (g : Nat) (h : g < 4) : fa_z4 E g = 0 := by
  unfold fa_z4 upd
  by_cases h3 : g = 3
  · rw [if_pos h3]
  rw [if_neg h3]
  by_cases h2 : g = 2
  · rw [if_pos h2]
  rw [if_neg h2]
  by_cases h1 : g = 1
  · rw [if_pos h1]
  rw [if_neg h1, if_pos (by omega)]
theorem xq_startRun {post : SX → Prop} (H : post (f_stacked, f_made, 0, 0, 0, 0, a_kind, a_number, a_elsePlace, a_jumpPlace, a_bodySize, a_stack, a_openFunction, a_openFirst, a_openSecond, a_openPlace, a_values, fa_z4 a_entered)) : wpX_startRun post (f_stacked, f_made, f_open, f_valueCount, f_enteredInAll, f_tired, a_kind, a_number, a_elsePlace, a_jumpPlace, a_bodySize, a_stack, a_openFunction, a_openFirst, a_openSecond, a_openPlace, a_values, a_entered) := by
  refine ⟨5, ?_⟩
  refine br_f (by decide) ⟨vp_in_iff.mpr (by decide), nm_r (e' := upd a_entered 0 0) rfl (nm_r (e' := 1) rfl ?_)⟩
  refine br_f (by decide) ⟨vp_in_iff.mpr (by decide), nm_r (e' := upd (upd a_entered 0 0) 1 0) rfl (nm_r (e' := 2) rfl ?_)⟩
  refine br_f (by decide) ⟨vp_in_iff.mpr (by decide), nm_r (e' := upd (upd (upd a_entered 0 0) 1 0) 2 0) rfl (nm_r (e' := 3) rfl ?_)⟩
  refine br_f (by decide) ⟨vp_in_iff.mpr (by decide), nm_r (e' := fa_z4 a_entered) rfl (nm_r (e' := 4) rfl ?_)⟩
  exact br_t (by decide) H
end
end
section
def xq_Fr (oF oA oB oP : Nat → Int32) : List (Nat × Int32 × Int32 × Nat) → Prop
  | [] => True
  | (g, a, b, p) :: fr => oF fr.length = nI g ∧ oA fr.length = a ∧ oB fr.length = b ∧ oP fr.length = nI p ∧ xq_Fr oF oA oB oP fr
def xq_Vs (V : Nat → Int32) : List Int32 → Prop
  | [] => True
  | v :: vs => V vs.length = v ∧ xq_Vs V vs
theorem xq_Vc {V V' : Nat → Int32} : ∀ vs : List Int32, (∀ i, i < vs.length → V' i = V i) → xq_Vs V vs → xq_Vs V' vs
  | [], _, _ => True.intro
  | v :: vs, h, hV => ⟨(h vs.length (Nat.lt_succ_self _)).trans hV.1, xq_Vc vs (fun i hi => h i (Nat.lt_succ_of_lt hi)) hV.2⟩
theorem xq_Vup {V : Nat → Int32} {vs : List Int32} {j : Nat} {x : Int32} (h : xq_Vs V vs) (hj : vs.length ≤ j) : xq_Vs (upd V j x) vs :=
  xq_Vc vs (fun i hi => pk_un (by omega)) h
theorem xq_Fc {oF oA oB oP oF' oA' oB' oP' : Nat → Int32} : ∀ fr : List (Nat × Int32 × Int32 × Nat), (∀ i, i < fr.length → oF' i = oF i ∧ oA' i = oA i ∧ oB' i = oB i ∧ oP' i = oP i) → xq_Fr oF oA oB oP fr → xq_Fr oF' oA' oB' oP' fr
  | [], _, _ => True.intro
  | (g, a, b, p) :: fr, h, ⟨h1, h2, h3, h4, h5⟩ =>
    have z := h fr.length (Nat.lt_succ_self _)
    ⟨z.1.trans h1, z.2.1.trans h2, z.2.2.1.trans h3, z.2.2.2.trans h4, xq_Fc fr (fun i hi => h i (Nat.lt_succ_of_lt hi)) h5⟩
def xq_R (A : Nat → Int32) (r : Nat → Nat → Nat) : Prop := ∀ g p, g < 5 → p < 14 → A (14 * g + p) = nI (r g p) ∧ r g p < 99
/-- the loop of a run goes well from step s on, with these calls under way and these values -/
def xq_L (post : Int32 → SX → Prop) (f_stacked f_made : Int32) (a_kind a_number a_elsePlace a_jumpPlace a_bodySize a_stack : Nat → Int32) (s : Nat) (fr : List (Nat × Int32 × Int32 × Nat)) (vs : List Int32) (n : Nat) (c : Nat → Int32) : Prop :=
  ∀ a_openFunction a_openFirst a_openSecond a_openPlace a_values a_entered : Nat → Int32, xq_Fr a_openFunction a_openFirst a_openSecond a_openPlace fr → xq_Vs a_values vs → (∀ g, g < 4 → a_entered g = c g) →
    ∃ N, wX_valueOfRun_14 post N (nI s) f_stacked f_made (nI fr.length) (nI vs.length) (nI n) (0) a_kind a_number a_elsePlace a_jumpPlace a_bodySize a_stack a_openFunction a_openFirst a_openSecond a_openPlace a_values a_entered
/-- a run has ended: tired (t = 1) or done (t = 0), with r -/
def xq_E (post : Int32 → SX → Prop) (f_stacked f_made : Int32) (a_kind a_number a_elsePlace a_jumpPlace a_bodySize a_stack : Nat → Int32) (r t : Int32) (n : Nat) (c : Nat → Int32) : Prop :=
  ∀ (f_open f_valueCount : Int32) (a_openFunction a_openFirst a_openSecond a_openPlace a_values a_entered : Nat → Int32), (∀ g, g < 4 → a_entered g = c g) → post r (f_stacked, f_made, f_open, f_valueCount, nI n, t, a_kind, a_number, a_elsePlace, a_jumpPlace, a_bodySize, a_stack, a_openFunction, a_openFirst, a_openSecond, a_openPlace, a_values, a_entered)
section
variable {post : Int32 → SX → Prop} {f_stacked f_made : Int32} {a_kind a_number a_elsePlace a_jumpPlace a_bodySize a_stack : Nat → Int32} {kd el ju : Nat → Nat → Nat} {sz : Nat → Nat}
theorem xq_Gx {s g : Nat} {a b : Int32} {p : Nat} {fr : List (Nat × Int32 × Int32 × Nat)} {v : Int32} {vs : List Int32} {n : Nat} {c : Nat → Int32} {a_openFunction a_openFirst a_openSecond a_openPlace a_values a_entered : Nat → Int32}
    (H : fa_G el ju (xq_L post f_stacked f_made a_kind a_number a_elsePlace a_jumpPlace a_bodySize a_stack) s g a b p fr v vs n c) (hFr : xq_Fr a_openFunction a_openFirst a_openSecond a_openPlace fr)
    (hF : a_openFunction fr.length = nI g) (hA : a_openFirst fr.length = a) (hB : a_openSecond fr.length = b) (hVs : xq_Vs a_values vs) (hv : a_values vs.length = v) (hc : ∀ g, g < 4 → a_entered g = c g) :
    ∃ N, wX_valueOfRun_14 post N (nI s) f_stacked f_made (nI (fr.length + 1)) (nI (if el g p = 0 then vs.length + 1 else vs.length)) (nI n) (0) a_kind a_number a_elsePlace a_jumpPlace a_bodySize a_stack a_openFunction a_openFirst a_openSecond (upd a_openPlace fr.length (nI (if el g p = 0 then (if ju g p = 0 then p + 1 else ju g p) else (if v = 0 then el g p else p + 1)))) a_values a_entered := by
  unfold fa_G at H
  have hfr : xq_Fr a_openFunction a_openFirst a_openSecond (upd a_openPlace fr.length (nI (if el g p = 0 then (if ju g p = 0 then p + 1 else ju g p) else (if v = 0 then el g p else p + 1)))) ((g, a, b, if el g p = 0 then (if ju g p = 0 then p + 1 else ju g p) else (if v = 0 then el g p else p + 1)) :: fr) :=
    ⟨hF, hA, hB, pk_us, xq_Fc fr (fun i hi => ⟨rfl, rfl, rfl, pk_un (by omega)⟩) hFr⟩
  have hvs : xq_Vs a_values (if el g p = 0 then v :: vs else vs) := by
    by_cases e0 : el g p = 0
    · rw [if_pos e0]; exact ⟨hv, hVs⟩
    · rw [if_neg e0]; exact hVs
  have h := H _ _ _ _ _ _ hfr hvs hc
  have e : (if el g p = 0 then v :: vs else vs).length = (if el g p = 0 then vs.length + 1 else vs.length) := by
    by_cases e0 : el g p = 0
    · rw [if_pos e0, if_pos e0]; rfl
    · rw [if_neg e0, if_neg e0]
  rw [e] at h
  exact h
theorem xq_rC (hK : xq_R a_kind kd) (hE : xq_R a_elsePlace el) (hJ : xq_R a_jumpPlace ju) (hz : ∀ g, g < 4 → a_bodySize g = nI (sz g) ∧ sz g ≤ 14) (s g : Nat) (a b : Int32) (p : Nat) (fr : List (Nat × Int32 × Int32 × Nat)) (vs : List Int32) (n : Nat) (c : Nat → Int32) (hs : s < 900) (hg : g < 4) (hp : p < sz g) (hk : kd g p = 8) (hv : vs.length < 840) (hf : fr.length < 60)
    (H : fa_G el ju (xq_L post f_stacked f_made a_kind a_number a_elsePlace a_jumpPlace a_bodySize a_stack) (s + 1) g a b p fr (a_number (14 * g + p)) vs n c) : xq_L post f_stacked f_made a_kind a_number a_elsePlace a_jumpPlace a_bodySize a_stack s ((g, a, b, p) :: fr) vs n c := by
  intro a_openFunction a_openFirst a_openSecond a_openPlace a_values a_entered hFr hV hc
  obtain ⟨f1, f2, f3, f4, hFr'⟩ := hFr
  have z := hz g hg
  have kk := (hK g p (by omega) (by omega)).1
  rw [hk] at kk
  obtain ⟨ee, ee'⟩ := hE g p (by omega) (by omega)
  obtain ⟨jj, jj'⟩ := hJ g p (by omega) (by omega)
  obtain ⟨N, hN⟩ := xq_Gx (a_values := upd a_values vs.length (a_number (14 * g + p))) H hFr' f1 f2 f3 (xq_Vup hV (Nat.le_refl _)) pk_us hc
  refine ⟨N + 1, ?_⟩
  refine br_f (nI_ge (b := 900) hs (by decide)) (br_f (nI_nle (n := fr.length + 1) (by omega) (by omega)) (br_t rfl ?_))
  refine xq_at_openFunction (fr.length) (nI_pred _) hf f1 ?_
  refine xq_at_openPlace (fr.length) (nI_pred _) hf f4 ?_
  refine nm_r (e' := nI (14 * g + p)) (xq_ix g p) ?_
  refine xq_at_kind (14 * g + p) rfl (by omega) kk ?_
  refine xq_at_bodySize g rfl hg z.1 ?_
  refine br_t (nI_lt hp (by omega)) (br_t (by decide) ?_)
  unfold wpX_workOutOther
  refine xq_at_kind (14 * g + p) rfl (by omega) kk ?_
  refine xq_at_number (14 * g + p) rfl (by omega) rfl ?_
  refine br_f (by decide) (br_f (by decide) ?_)
  refine br_f (by decide) ?_
  refine xq_pushValue vs.length hv ?_
  unfold wX_workOutOther_76
  refine xq_goOn fr.length g p (el g p) (ju g p) vs.length hf f1 f4 (by omega) ee jj ee' jj' hv pk_us ?_
  exact nm_r (nI_1 s) hN
theorem xq_rF (hK : xq_R a_kind kd) (hE : xq_R a_elsePlace el) (hJ : xq_R a_jumpPlace ju) (hz : ∀ g, g < 4 → a_bodySize g = nI (sz g) ∧ sz g ≤ 14) (s g : Nat) (a b : Int32) (p : Nat) (fr : List (Nat × Int32 × Int32 × Nat)) (vs : List Int32) (n : Nat) (c : Nat → Int32) (hs : s < 900) (hg : g < 4) (hp : p < sz g) (hk : kd g p = 9) (hv : vs.length < 840) (hf : fr.length < 60)
    (H : fa_G el ju (xq_L post f_stacked f_made a_kind a_number a_elsePlace a_jumpPlace a_bodySize a_stack) (s + 1) g a b p fr a vs n c) : xq_L post f_stacked f_made a_kind a_number a_elsePlace a_jumpPlace a_bodySize a_stack s ((g, a, b, p) :: fr) vs n c := by
  intro a_openFunction a_openFirst a_openSecond a_openPlace a_values a_entered hFr hV hc
  obtain ⟨f1, f2, f3, f4, hFr'⟩ := hFr
  have z := hz g hg
  have kk := (hK g p (by omega) (by omega)).1
  rw [hk] at kk
  obtain ⟨ee, ee'⟩ := hE g p (by omega) (by omega)
  obtain ⟨jj, jj'⟩ := hJ g p (by omega) (by omega)
  obtain ⟨N, hN⟩ := xq_Gx (a_values := upd a_values vs.length a) H hFr' f1 f2 f3 (xq_Vup hV (Nat.le_refl _)) pk_us hc
  refine ⟨N + 1, ?_⟩
  refine br_f (nI_ge (b := 900) hs (by decide)) (br_f (nI_nle (n := fr.length + 1) (by omega) (by omega)) (br_t rfl ?_))
  refine xq_at_openFunction (fr.length) (nI_pred _) hf f1 ?_
  refine xq_at_openPlace (fr.length) (nI_pred _) hf f4 ?_
  refine nm_r (e' := nI (14 * g + p)) (xq_ix g p) ?_
  refine xq_at_kind (14 * g + p) rfl (by omega) kk ?_
  refine xq_at_bodySize g rfl hg z.1 ?_
  refine br_t (nI_lt hp (by omega)) (br_t (by decide) ?_)
  unfold wpX_workOutOther
  refine xq_at_kind (14 * g + p) rfl (by omega) kk ?_
  refine xq_at_number (14 * g + p) rfl (by omega) rfl ?_
  refine br_t rfl ?_
  refine xq_at_openFirst fr.length (nI_pred _) hf f2 ?_
  refine br_f (by decide) ?_
  refine xq_pushValue vs.length hv ?_
  unfold wX_workOutOther_76
  refine xq_goOn fr.length g p (el g p) (ju g p) vs.length hf f1 f4 (by omega) ee jj ee' jj' hv pk_us ?_
  exact nm_r (nI_1 s) hN
theorem xq_rS (hK : xq_R a_kind kd) (hE : xq_R a_elsePlace el) (hJ : xq_R a_jumpPlace ju) (hz : ∀ g, g < 4 → a_bodySize g = nI (sz g) ∧ sz g ≤ 14) (s g : Nat) (a b : Int32) (p : Nat) (fr : List (Nat × Int32 × Int32 × Nat)) (vs : List Int32) (n : Nat) (c : Nat → Int32) (hs : s < 900) (hg : g < 4) (hp : p < sz g) (hk : kd g p = 10) (hv : vs.length < 840) (hf : fr.length < 60)
    (H : fa_G el ju (xq_L post f_stacked f_made a_kind a_number a_elsePlace a_jumpPlace a_bodySize a_stack) (s + 1) g a b p fr b vs n c) : xq_L post f_stacked f_made a_kind a_number a_elsePlace a_jumpPlace a_bodySize a_stack s ((g, a, b, p) :: fr) vs n c := by
  intro a_openFunction a_openFirst a_openSecond a_openPlace a_values a_entered hFr hV hc
  obtain ⟨f1, f2, f3, f4, hFr'⟩ := hFr
  have z := hz g hg
  have kk := (hK g p (by omega) (by omega)).1
  rw [hk] at kk
  obtain ⟨ee, ee'⟩ := hE g p (by omega) (by omega)
  obtain ⟨jj, jj'⟩ := hJ g p (by omega) (by omega)
  obtain ⟨N, hN⟩ := xq_Gx (a_values := upd a_values vs.length b) H hFr' f1 f2 f3 (xq_Vup hV (Nat.le_refl _)) pk_us hc
  refine ⟨N + 1, ?_⟩
  refine br_f (nI_ge (b := 900) hs (by decide)) (br_f (nI_nle (n := fr.length + 1) (by omega) (by omega)) (br_t rfl ?_))
  refine xq_at_openFunction (fr.length) (nI_pred _) hf f1 ?_
  refine xq_at_openPlace (fr.length) (nI_pred _) hf f4 ?_
  refine nm_r (e' := nI (14 * g + p)) (xq_ix g p) ?_
  refine xq_at_kind (14 * g + p) rfl (by omega) kk ?_
  refine xq_at_bodySize g rfl hg z.1 ?_
  refine br_t (nI_lt hp (by omega)) (br_t (by decide) ?_)
  unfold wpX_workOutOther
  refine xq_at_kind (14 * g + p) rfl (by omega) kk ?_
  refine xq_at_number (14 * g + p) rfl (by omega) rfl ?_
  refine br_f (by decide) (br_t rfl ?_)
  refine xq_at_openSecond fr.length (nI_pred _) hf f3 ?_
  refine br_f (by decide) ?_
  refine xq_pushValue vs.length hv ?_
  unfold wX_workOutOther_76
  refine xq_goOn fr.length g p (el g p) (ju g p) vs.length hf f1 f4 (by omega) ee jj ee' jj' hv pk_us ?_
  exact nm_r (nI_1 s) hN
theorem xq_rH (hK : xq_R a_kind kd) (hE : xq_R a_elsePlace el) (hJ : xq_R a_jumpPlace ju) (hz : ∀ g, g < 4 → a_bodySize g = nI (sz g) ∧ sz g ≤ 14) (s g : Nat) (a b : Int32) (p : Nat) (fr : List (Nat × Int32 × Int32 × Nat)) (v : Int32) (vs : List Int32) (n : Nat) (c : Nat → Int32) (hs : s < 900) (hg : g < 4) (hp : p < sz g) (hk : kd g p = 11) (hv : vs.length < 840) (hf : fr.length < 60)
    (H : fa_G el ju (xq_L post f_stacked f_made a_kind a_number a_elsePlace a_jumpPlace a_bodySize a_stack) (s + 1) g a b p fr v vs n c) : xq_L post f_stacked f_made a_kind a_number a_elsePlace a_jumpPlace a_bodySize a_stack s ((g, a, b, p) :: fr) (v :: vs) n c := by
  intro a_openFunction a_openFirst a_openSecond a_openPlace a_values a_entered hFr hV hc
  obtain ⟨f1, f2, f3, f4, hFr'⟩ := hFr
  obtain ⟨v1, hV'⟩ := hV
  have z := hz g hg
  have kk := (hK g p (by omega) (by omega)).1
  rw [hk] at kk
  obtain ⟨ee, ee'⟩ := hE g p (by omega) (by omega)
  obtain ⟨jj, jj'⟩ := hJ g p (by omega) (by omega)
  obtain ⟨N, hN⟩ := xq_Gx H hFr' f1 f2 f3 hV' v1 hc
  refine ⟨N + 1, ?_⟩
  refine br_f (nI_ge (b := 900) hs (by decide)) (br_f (nI_nle (n := fr.length + 1) (by omega) (by omega)) (br_t rfl ?_))
  refine xq_at_openFunction (fr.length) (nI_pred _) hf f1 ?_
  refine xq_at_openPlace (fr.length) (nI_pred _) hf f4 ?_
  refine nm_r (e' := nI (14 * g + p)) (xq_ix g p) ?_
  refine xq_at_kind (14 * g + p) rfl (by omega) kk ?_
  refine xq_at_bodySize g rfl hg z.1 ?_
  refine br_t (nI_lt hp (by omega)) (br_t (by decide) ?_)
  unfold wpX_workOutOther
  refine xq_at_kind (14 * g + p) rfl (by omega) kk ?_
  refine xq_at_number (14 * g + p) rfl (by omega) rfl ?_
  refine br_f (by decide) (br_f (by decide) ?_)
  refine br_t rfl ?_
  unfold wX_workOutOther_76
  refine xq_goOn fr.length g p (el g p) (ju g p) vs.length hf f1 f4 (by omega) ee jj ee' jj' hv v1 ?_
  exact nm_r (nI_1 s) hN
theorem xq_rT (hK : xq_R a_kind kd) (hE : xq_R a_elsePlace el) (hJ : xq_R a_jumpPlace ju) (hz : ∀ g, g < 4 → a_bodySize g = nI (sz g) ∧ sz g ≤ 14) (s g : Nat) (a b : Int32) (p : Nat) (fr : List (Nat × Int32 × Int32 × Nat)) (x y : Int32) (vs : List Int32) (n : Nat) (c : Nat → Int32) (hs : s < 900) (hg : g < 4) (hp : p < sz g) (hk : kd g p < 4) (hv : vs.length < 839) (hf : fr.length < 60)
    (H : fa_G el ju (xq_L post f_stacked f_made a_kind a_number a_elsePlace a_jumpPlace a_bodySize a_stack) (s + 1) g a b p fr (fa_comb (kd g p) x y) vs n c) : xq_L post f_stacked f_made a_kind a_number a_elsePlace a_jumpPlace a_bodySize a_stack s ((g, a, b, p) :: fr) (y :: x :: vs) n c := by
  intro a_openFunction a_openFirst a_openSecond a_openPlace a_values a_entered hFr hV hc
  have hFr0 := hFr
  obtain ⟨f1, f2, f3, f4, hFr'⟩ := hFr
  obtain ⟨v1, v2, hV'⟩ := hV
  have v1' : a_values (vs.length + 1) = y := v1
  have z := hz g hg
  obtain ⟨kk, kb⟩ := hK g p (by omega) (by omega)
  obtain ⟨ee, ee'⟩ := hE g p (by omega) (by omega)
  obtain ⟨jj, jj'⟩ := hJ g p (by omega) (by omega)
  obtain ⟨N, hN⟩ := xq_Gx (a_values := upd a_values vs.length (fa_comb (kd g p) x y)) H hFr' f1 f2 f3 (xq_Vup hV' (Nat.le_refl _)) pk_us hc
  refine ⟨N + 1, ?_⟩
  refine br_f (nI_ge (b := 900) hs (by decide)) (br_f (nI_nle (n := fr.length + 1) (by omega) (by omega)) (br_t rfl ?_))
  refine xq_at_openFunction (fr.length) (nI_pred _) hf f1 ?_
  refine xq_at_openPlace (fr.length) (nI_pred _) hf f4 ?_
  refine nm_r (e' := nI (14 * g + p)) (xq_ix g p) ?_
  refine xq_at_kind (14 * g + p) rfl (by omega) kk ?_
  refine xq_at_bodySize g rfl hg z.1 ?_
  refine br_t (nI_lt hp (by omega)) (br_f (nI_nlt (a := 7) (b := kd g p) (by omega) (by decide)) ?_)
  refine nm_r (e' := nI vs.length) (pk_sub (a := vs.length + 2) (b := 2) (by omega)) ?_
  refine xq_at_values vs.length rfl (by omega) v2 ?_
  refine xq_at_values (vs.length + 1) (nI_1 _) (by omega) v1' ?_
  refine br_t (nI_lt (b := 4) hk (by decide)) ?_
  refine xq_combined (kd g p) hk rfl ?_
  refine xq_pushValue vs.length (by omega) ?_
  refine xq_goOn fr.length g p (el g p) (ju g p) vs.length hf f1 f4 (by omega) ee jj ee' jj' (by omega) pk_us ?_
  exact nm_r (nI_1 s) hN
theorem xq_rK (hK : xq_R a_kind kd) (hE : xq_R a_elsePlace el) (hJ : xq_R a_jumpPlace ju) (hz : ∀ g, g < 4 → a_bodySize g = nI (sz g) ∧ sz g ≤ 14) (s g : Nat) (a b : Int32) (p : Nat) (fr : List (Nat × Int32 × Int32 × Nat)) (x y : Int32) (vs : List Int32) (n : Nat) (c : Nat → Int32) (hs : s < 900) (hg : g < 4) (hp : p < sz g) (hk : kd g p ≤ 7) (hk4 : ¬ kd g p < 4) (hn : n < 60) (hv : vs.length < 839) (hf' : fr.length + 1 ≤ n)
    (H : xq_L post f_stacked f_made a_kind a_number a_elsePlace a_jumpPlace a_bodySize a_stack (s + 1) ((kd g p - 4, x, y, 0) :: (g, a, b, p) :: fr) vs (n + 1) (upd c (kd g p - 4) (c (kd g p - 4) + 1))) : xq_L post f_stacked f_made a_kind a_number a_elsePlace a_jumpPlace a_bodySize a_stack s ((g, a, b, p) :: fr) (y :: x :: vs) n c := by
  have hf : fr.length < 60 := by omega
  intro a_openFunction a_openFirst a_openSecond a_openPlace a_values a_entered hFr hV hc
  have hFr0 := hFr
  obtain ⟨f1, f2, f3, f4, hFr'⟩ := hFr
  obtain ⟨v1, v2, hV'⟩ := hV
  have v1' : a_values (vs.length + 1) = y := v1
  have z := hz g hg
  obtain ⟨kk, kb⟩ := hK g p (by omega) (by omega)
  have hc' : ∀ h, h < 4 → upd a_entered (kd g p - 4) (a_entered (kd g p - 4) + 1) h = upd c (kd g p - 4) (c (kd g p - 4) + 1) h := by
    intro h hh
    by_cases e : h = kd g p - 4
    · rw [e, pk_us, pk_us, hc _ (by omega)]
    · rw [pk_un e, pk_un e, hc h hh]
  obtain ⟨N, hN⟩ := H (upd a_openFunction (fr.length + 1) (nI (kd g p - 4))) (upd a_openFirst (fr.length + 1) x) (upd a_openSecond (fr.length + 1) y) (upd a_openPlace (fr.length + 1) (nI 0)) a_values _ ⟨pk_us, pk_us, pk_us, pk_us, xq_Fc ((g, a, b, p) :: fr) (fun i hi => have h : i ≠ fr.length + 1 := Nat.ne_of_lt hi; ⟨pk_un h, pk_un h, pk_un h, pk_un h⟩) hFr0⟩ hV' hc'
  refine ⟨N + 1, ?_⟩
  refine br_f (nI_ge (b := 900) hs (by decide)) (br_f (nI_nle (n := fr.length + 1) (by omega) (by omega)) (br_t rfl ?_))
  refine xq_at_openFunction (fr.length) (nI_pred _) hf f1 ?_
  refine xq_at_openPlace (fr.length) (nI_pred _) hf f4 ?_
  refine nm_r (e' := nI (14 * g + p)) (xq_ix g p) ?_
  refine xq_at_kind (14 * g + p) rfl (by omega) kk ?_
  refine xq_at_bodySize g rfl hg z.1 ?_
  refine br_t (nI_lt hp (by omega)) (br_f (nI_nlt (a := 7) (b := kd g p) (by omega) (by decide)) ?_)
  refine nm_r (e' := nI vs.length) (pk_sub (a := vs.length + 2) (b := 2) (by omega)) ?_
  refine xq_at_values vs.length rfl (by omega) v2 ?_
  refine xq_at_values (vs.length + 1) (nI_1 _) (by omega) v1' ?_
  refine br_f (nI_nlt (b := 4) (by omega) (by omega)) ?_
  refine xq_enter n (fr.length + 1) (kd g p - 4) (pk_sub (b := 4) (by omega)) hn (by omega) (by omega) ?_
  exact nm_r (nI_1 s) hN
theorem xq_exit {r t : Int32} {n : Nat} {c : Nat → Int32} {x : Int32} {f_open f_valueCount : Int32} {a_openFunction a_openFirst a_openSecond a_openPlace a_values a_entered : Nat → Int32} (H : wX_valueOfRun_140 post f_stacked f_made f_open f_valueCount (nI n) (t) a_kind a_number a_elsePlace a_jumpPlace a_bodySize a_stack a_openFunction a_openFirst a_openSecond a_openPlace a_values a_entered) (h : f_open ≤ 0 ∨ ¬ t = 0) :
    wX_valueOfRun_14 post 1 x f_stacked f_made f_open f_valueCount (nI n) (t) a_kind a_number a_elsePlace a_jumpPlace a_bodySize a_stack a_openFunction a_openFirst a_openSecond a_openPlace a_values a_entered := by
  refine br_c (fun _ => H) (fun _ => ?_)
  refine br_c (fun _ => H) (fun h' => ?_)
  rcases h with h | h
  · exact absurd h h'
  · exact br_f h H
theorem xq_rX (hK : xq_R a_kind kd) (hE : xq_R a_elsePlace el) (hJ : xq_R a_jumpPlace ju) (hz : ∀ g, g < 4 → a_bodySize g = nI (sz g) ∧ sz g ≤ 14) (s g : Nat) (a b : Int32) (p : Nat) (fr : List (Nat × Int32 × Int32 × Nat)) (x y : Int32) (vs : List Int32) (n : Nat) (c : Nat → Int32) (hs : s < 900) (hg : g < 4) (hp : p < sz g) (hk : kd g p ≤ 7) (hk4 : ¬ kd g p < 4) (hn : n = 60) (hv : vs.length < 839) (hf : fr.length < 60)
    (H : xq_E post f_stacked f_made a_kind a_number a_elsePlace a_jumpPlace a_bodySize a_stack 0 1 n c) : xq_L post f_stacked f_made a_kind a_number a_elsePlace a_jumpPlace a_bodySize a_stack s ((g, a, b, p) :: fr) (y :: x :: vs) n c := by
  intro a_openFunction a_openFirst a_openSecond a_openPlace a_values a_entered hFr hV hc
  have hFr0 := hFr
  obtain ⟨f1, f2, f3, f4, hFr'⟩ := hFr
  obtain ⟨v1, v2, hV'⟩ := hV
  have v1' : a_values (vs.length + 1) = y := v1
  have z := hz g hg
  obtain ⟨kk, kb⟩ := hK g p (by omega) (by omega)
  subst hn
  refine ⟨2, ?_⟩
  refine br_f (nI_ge (b := 900) hs (by decide)) (br_f (nI_nle (n := fr.length + 1) (by omega) (by omega)) (br_t rfl ?_))
  refine xq_at_openFunction (fr.length) (nI_pred _) hf f1 ?_
  refine xq_at_openPlace (fr.length) (nI_pred _) hf f4 ?_
  refine nm_r (e' := nI (14 * g + p)) (xq_ix g p) ?_
  refine xq_at_kind (14 * g + p) rfl (by omega) kk ?_
  refine xq_at_bodySize g rfl hg z.1 ?_
  refine br_t (nI_lt hp (by omega)) (br_f (nI_nlt (a := 7) (b := kd g p) (by omega) (by decide)) ?_)
  refine nm_r (e' := nI vs.length) (pk_sub (a := vs.length + 2) (b := 2) (by omega)) ?_
  refine xq_at_values vs.length rfl (by omega) v2 ?_
  refine xq_at_values (vs.length + 1) (nI_1 _) (by omega) v1' ?_
  refine br_f (nI_nlt (b := 4) (by omega) (by omega)) ?_
  refine xq_enterT ?_
  refine nm_e ?_
  exact xq_exit (r := 0) (c := c) (br_f (by decide) (H _ _ _ _ _ _ _ _ hc)) (Or.inr (by decide))
theorem xq_rL (hK : xq_R a_kind kd) (hE : xq_R a_elsePlace el) (hJ : xq_R a_jumpPlace ju) (hz : ∀ g, g < 4 → a_bodySize g = nI (sz g) ∧ sz g ≤ 14) (s g : Nat) (a b : Int32) (p : Nat) (g' : Nat) (a' b' : Int32) (p' : Nat) (fr : List (Nat × Int32 × Int32 × Nat)) (v : Int32) (vs : List Int32) (n : Nat) (c : Nat → Int32) (hs : s < 900) (hg : g < 4) (hp : p = sz g) (hg' : g' < 4) (hp' : p' < sz g') (hv : vs.length < 840) (hf : fr.length < 59)
    (H : fa_G el ju (xq_L post f_stacked f_made a_kind a_number a_elsePlace a_jumpPlace a_bodySize a_stack) (s + 1) g' a' b' p' fr v vs n c) : xq_L post f_stacked f_made a_kind a_number a_elsePlace a_jumpPlace a_bodySize a_stack s ((g, a, b, p) :: (g', a', b', p') :: fr) (v :: vs) n c := by
  intro a_openFunction a_openFirst a_openSecond a_openPlace a_values a_entered hFr hV hc
  obtain ⟨f1, f2, f3, f4, e1, e2, e3, e4, hFr'⟩ := hFr
  have f1' : a_openFunction (fr.length + 1) = nI g := f1
  have f4' : a_openPlace (fr.length + 1) = nI p := f4
  obtain ⟨v1, hV'⟩ := hV
  have z := hz g hg
  have z' := hz g' hg'
  obtain ⟨ee, ee'⟩ := hE g' p' (by omega) (by omega)
  obtain ⟨jj, jj'⟩ := hJ g' p' (by omega) (by omega)
  obtain ⟨N, hN⟩ := xq_Gx H hFr' e1 e2 e3 hV' v1 hc
  refine ⟨N + 1, ?_⟩
  refine br_f (nI_ge (b := 900) hs (by decide)) (br_f (nI_nle (n := fr.length + 1 + 1) (by omega) (by omega)) (br_t rfl ?_))
  refine xq_at_openFunction (fr.length + 1) (nI_pred _) (by omega) f1' ?_
  refine xq_at_openPlace (fr.length + 1) (nI_pred _) (by omega) f4' ?_
  refine nm_r (e' := nI (14 * g + p)) (xq_ix g p) ?_
  refine xq_at_kind (14 * g + p) rfl (by omega) rfl ?_
  refine xq_at_bodySize g rfl hg z.1 ?_
  refine br_f (nI_nlt (by omega) (by omega)) ?_
  refine nm_r (e' := nI (fr.length + 1)) (nI_pred _) ?_
  refine br_f (nI_nle (by omega) (by omega)) ?_
  refine xq_goOn fr.length g' p' (el g' p') (ju g' p') vs.length (by omega) e1 e4 (by omega) ee jj ee' jj' hv v1 ?_
  exact nm_r (nI_1 s) hN
theorem xq_rE (hK : xq_R a_kind kd) (hE : xq_R a_elsePlace el) (hJ : xq_R a_jumpPlace ju) (hz : ∀ g, g < 4 → a_bodySize g = nI (sz g) ∧ sz g ≤ 14) (s g : Nat) (a b : Int32) (p : Nat) (v : Int32) (n : Nat) (c : Nat → Int32) (hs : s < 900) (hg : g < 4) (hp : p = sz g)
    (H : xq_E post f_stacked f_made a_kind a_number a_elsePlace a_jumpPlace a_bodySize a_stack v 0 n c) : xq_L post f_stacked f_made a_kind a_number a_elsePlace a_jumpPlace a_bodySize a_stack s [(g, a, b, p)] [v] n c := by
  intro a_openFunction a_openFirst a_openSecond a_openPlace a_values a_entered hFr hV hc
  obtain ⟨f1, f2, f3, f4, _⟩ := hFr
  have f1' : a_openFunction 0 = nI g := f1
  have f4' : a_openPlace 0 = nI p := f4
  have v1 : a_values 0 = v := hV.1
  have z := hz g hg
  refine ⟨2, ?_⟩
  refine br_f (nI_ge (b := 900) hs (by decide)) (br_f (nI_nle (n := 0 + 1) (by omega) (by omega)) (br_t rfl ?_))
  refine xq_at_openFunction (0) (nI_pred _) (by omega) f1' ?_
  refine xq_at_openPlace (0) (nI_pred _) (by omega) f4' ?_
  refine nm_r (e' := nI (14 * g + p)) (xq_ix g p) ?_
  refine xq_at_kind (14 * g + p) rfl (by omega) rfl ?_
  refine xq_at_bodySize g rfl hg z.1 ?_
  refine br_f (nI_nlt (by omega) (by omega)) ?_
  refine nm_r (e' := nI 0) (nI_pred 0) ?_
  refine br_t (by decide) ?_
  refine nm_e ?_
  exact xq_exit (r := v) (c := c) (br_t rfl (by rw [v1]; exact H _ _ _ _ _ _ _ _ hc)) (Or.inl (by decide))
end
end
section
section
variable {f_stacked f_made f_open f_valueCount f_enteredInAll f_tired : Int32} {a_kind a_number a_elsePlace a_jumpPlace a_bodySize a_stack a_openFunction a_openFirst a_openSecond a_openPlace a_values a_entered : Nat → Int32} {post : Int32 → SX → Prop} {kd el ju st cc cx cy : Nat → Nat → Nat} {sz : Nat → Nat}
theorem xq_run (hK : xq_R a_kind kd) (hE : xq_R a_elsePlace el) (hJ : xq_R a_jumpPlace ju) (hz : ∀ g, g < 4 → a_bodySize g = nI (sz g) ∧ sz g ≤ 14) (hW : ∀ g, g < 4 → fa_Bd (kd g) (st g) (el g) (ju g) (cc g) (cx g) (cy g) (sz g)) (f : Nat) (hf : f < 4) (a b : Int32)
    (HS : ∀ (v : Int32) (n : Nat) (c : Nat → Int32), fa_ev kd (fun g p => a_number (14 * g + p)) cc cx cy sz 901 f (sz f - 1) a b 1 (upd (fun _ => 0) f 1) = (some v, n, c) → xq_E post f_stacked f_made a_kind a_number a_elsePlace a_jumpPlace a_bodySize a_stack v 0 n c)
    (HN : ∀ (n : Nat) (c : Nat → Int32), fa_ev kd (fun g p => a_number (14 * g + p)) cc cx cy sz 901 f (sz f - 1) a b 1 (upd (fun _ => 0) f 1) = (none, n, c) → xq_E post f_stacked f_made a_kind a_number a_elsePlace a_jumpPlace a_bodySize a_stack 0 1 n c) : wpX_valueOfRun post (f_stacked, f_made, f_open, f_valueCount, f_enteredInAll, f_tired, a_kind, a_number, a_elsePlace, a_jumpPlace, a_bodySize, a_stack, a_openFunction, a_openFirst, a_openSecond, a_openPlace, a_values, a_entered) (nI f) a b := by
  unfold wpX_valueOfRun
  refine xq_startRun ?_
  refine xq_enter 0 0 f rfl (by decide) (by decide) hf ?_
  obtain ⟨w0, w14, ws, we, wj, _⟩ := hW f hf
  have h := fa_sim kd (fun g p => a_number (14 * g + p)) cc cx cy sz st el ju (xq_L post f_stacked f_made a_kind a_number a_elsePlace a_jumpPlace a_bodySize a_stack) (fun n c => xq_E post f_stacked f_made a_kind a_number a_elsePlace a_jumpPlace a_bodySize a_stack 0 1 n c) hW
    (xq_rC hK hE hJ hz) (xq_rF hK hE hJ hz) (xq_rS hK hE hJ hz) (xq_rH hK hE hJ hz) (xq_rT hK hE hJ hz) (xq_rK hK hE hJ hz) (xq_rX hK hE hJ hz) (xq_rL hK hE hJ hz)
    901 f (sz f - 1) a b 1 (upd (fun _ => 0) f 1) 0 [] [] (by omega) (by omega) hf (by omega) (by omega) (Nat.zero_le _) (Nat.le_refl 1)
    (fun v n' c' s' e hn hn' hs' => by
      rw [fa_G0 we wj]
      exact xq_rE hK hE hJ hz s' f a b (sz f - 1 + 1) v n' c' (by omega) hf (by omega) (HS v n' c' e)) HN
  rw [ws] at h
  refine h _ _ _ _ _ _ ⟨pk_us, pk_us, pk_us, pk_us, True.intro⟩ True.intro (fun g hg => ?_)
  by_cases e : g = f
  · rw [e, pk_us, pk_us, fa_z4e _ f hf]; rfl
  · rw [pk_un e, pk_un e, fa_z4e _ g hg]
end
set_option maxHeartbeats 1000000 in
theorem fa_ysim (kd : Nat → Nat → Nat) (nm : Nat → Nat → Int32) (cc cx cy : Nat → Nat → Nat) (sz : Nat → Nat) (st el ju : Nat → Nat → Nat)
    (M : List (Nat × Nat × Nat) → List Int32 → Nat → (Nat → Int32) → (Nat → Int32) → (Nat → Int32) → Prop) (T : Nat → (Nat → Int32) → Prop)
    (hW : ∀ g, g < 4 → fa_Bd (kd g) (st g) (el g) (ju g) (cc g) (cx g) (cy g) (sz g))
    (yC : ∀ (g p i : Nat) (ws : List (Nat × Nat × Nat)) (vs : List Int32) (n : Nat) (A B c : Nat → Int32), g < 4 → p < sz g → i < n → n ≤ 60 → ws.length < 400 → vs.length < 400 → kd g p = 8 → M ws (nm g p :: vs) n A B c → M ((14 * g + p, 0, i) :: ws) vs n A B c)
    (yF : ∀ (g p i : Nat) (ws : List (Nat × Nat × Nat)) (vs : List Int32) (n : Nat) (A B c : Nat → Int32), g < 4 → p < sz g → i < n → n ≤ 60 → ws.length < 400 → vs.length < 400 → kd g p = 9 → M ws (A i :: vs) n A B c → M ((14 * g + p, 0, i) :: ws) vs n A B c)
    (yS : ∀ (g p i : Nat) (ws : List (Nat × Nat × Nat)) (vs : List Int32) (n : Nat) (A B c : Nat → Int32), g < 4 → p < sz g → i < n → n ≤ 60 → ws.length < 400 → vs.length < 400 → kd g p = 10 → M ws (B i :: vs) n A B c → M ((14 * g + p, 0, i) :: ws) vs n A B c)
    (yT : ∀ (g p i : Nat) (ws : List (Nat × Nat × Nat)) (vs : List Int32) (n : Nat) (A B c : Nat → Int32), g < 4 → p < sz g → i < n → n ≤ 60 → ws.length < 400 → vs.length < 400 → kd g p ≤ 7 → M ((14 * g + cx g p, 0, i) :: (14 * g + p, 1, i) :: ws) vs n A B c → M ((14 * g + p, 0, i) :: ws) vs n A B c)
    (yH : ∀ (g p i : Nat) (ws : List (Nat × Nat × Nat)) (vs : List Int32) (n : Nat) (A B c : Nat → Int32), g < 4 → p < sz g → i < n → n ≤ 60 → ws.length < 400 → vs.length < 400 → kd g p = 11 → M ((14 * g + cc g p, 0, i) :: (14 * g + p, 1, i) :: ws) vs n A B c → M ((14 * g + p, 0, i) :: ws) vs n A B c)
    (yU : ∀ (g p i : Nat) (ws : List (Nat × Nat × Nat)) (vs : List Int32) (n : Nat) (A B c : Nat → Int32), g < 4 → p < sz g → i < n → n ≤ 60 → ws.length < 400 → vs.length < 400 → kd g p ≤ 7 → M ((14 * g + cy g p, 0, i) :: (14 * g + p, 2, i) :: ws) vs n A B c → M ((14 * g + p, 1, i) :: ws) vs n A B c)
    (yO : ∀ (g p i : Nat) (ws : List (Nat × Nat × Nat)) (vs : List Int32) (n : Nat) (A B c : Nat → Int32) (x y : Int32), g < 4 → p < sz g → i < n → n ≤ 60 → ws.length < 400 → vs.length < 400 → kd g p < 4 → M ws (fa_comb (kd g p) x y :: vs) n A B c → M ((14 * g + p, 2, i) :: ws) (y :: x :: vs) n A B c)
    (yK : ∀ (g p i : Nat) (ws : List (Nat × Nat × Nat)) (vs : List Int32) (n : Nat) (A B c : Nat → Int32) (x y : Int32), g < 4 → p < sz g → i < n → n ≤ 60 → ws.length < 400 → vs.length < 400 → kd g p ≤ 7 → ¬ kd g p < 4 → n < 60 → M ((14 * (kd g p - 4) + (sz (kd g p - 4) - 1), 0, n) :: ws) vs (n + 1) (upd A n x) (upd B n y) (upd c (kd g p - 4) (c (kd g p - 4) + 1)) → M ((14 * g + p, 2, i) :: ws) (y :: x :: vs) n A B c)
    (yX : ∀ (g p i : Nat) (ws : List (Nat × Nat × Nat)) (vs : List Int32) (n : Nat) (A B c : Nat → Int32) (x y : Int32), g < 4 → p < sz g → i < n → n ≤ 60 → ws.length < 400 → vs.length < 400 → kd g p ≤ 7 → ¬ kd g p < 4 → n = 60 → T n c → M ((14 * g + p, 2, i) :: ws) (y :: x :: vs) n A B c)
    (yI : ∀ (g p i : Nat) (ws : List (Nat × Nat × Nat)) (vs : List Int32) (n : Nat) (A B c : Nat → Int32) (v : Int32), g < 4 → p < sz g → i < n → n ≤ 60 → ws.length < 400 → vs.length < 400 → kd g p = 11 → M ((14 * g + (if v = 0 then cy g p else cx g p), 0, i) :: ws) vs n A B c → M ((14 * g + p, 1, i) :: ws) (v :: vs) n A B c) :
    ∀ (F g p i : Nat) (a b : Int32) (n : Nat) (A B c : Nat → Int32) (ws : List (Nat × Nat × Nat)) (vs : List Int32) (d k : Nat),
      (60 - n) * 15 + p + 1 ≤ F → n ≤ 60 → g < 4 → p < sz g → i < n → A i = a → B i = b → ws.length ≤ 5 * d + k → vs.length ≤ 5 * d + k → 2 * k + (p + 1 - st g p) ≤ 14 → d + 1 ≤ n →
      (∀ (v : Int32) (n' : Nat) (A' B' c' : Nat → Int32), fa_ev kd nm cc cx cy sz F g p a b n c = (some v, n', c') → n ≤ n' → n' ≤ 60 → (∀ j, j < n → A' j = A j ∧ B' j = B j) → M ws (v :: vs) n' A' B' c') →
      (∀ (n' : Nat) (c' : Nat → Int32), fa_ev kd nm cc cx cy sz F g p a b n c = (none, n', c') → T n' c') →
      M ((14 * g + p, 0, i) :: ws) vs n A B c := by
  intro F
  induction F with
  | zero => intro g p i a b n A B c ws vs d k h; omega
  | succ F ih =>
    intro g p i a b n A B c ws vs d k hF' hn hg hp hi hA hB hw hv hk hd KS KN
    obtain ⟨z0, z14, zs, ze, zj, hLC⟩ := hW g hg
    have lw : ws.length < 400 := by omega
    have lv : vs.length < 400 := by omega
    rcases hLC p hp with ⟨h8, h10, e⟩ | ⟨h7, ey, ex, es, lx, ly, x1, x2, y1, y2⟩ | ⟨h11, ey, ex, ec, es, lc, lx, ly, c1, x1, x2, y1, y2⟩
    · by_cases k8 : kd g p = 8
      · exact yC g p i ws vs n A B c hg hp hi hn lw lv k8 (KS _ _ _ _ _ (fa_ev8 k8) (Nat.le_refl _) hn (fun _ _ => ⟨rfl, rfl⟩))
      by_cases k9 : kd g p = 9
      · exact yF g p i ws vs n A B c hg hp hi hn lw lv k9 (by rw [hA]; exact KS _ _ _ _ _ (fa_ev9 k9) (Nat.le_refl _) hn (fun _ _ => ⟨rfl, rfl⟩))
      have k10 : kd g p = 10 := by omega
      exact yS g p i ws vs n A B c hg hp hi hn lw lv k10 (by rw [hB]; exact KS _ _ _ _ _ (fa_ev10 k10) (Nat.le_refl _) hn (fun _ _ => ⟨rfl, rfl⟩))
    · refine yT g p i ws vs n A B c hg hp hi hn lw lv h7 ?_
      refine ih g (cx g p) i a b n A B c _ vs d (k + 1) (by omega) hn hg (by omega) hi hA hB (by rw [List.length_cons]; omega) (by omega) (by omega) hd ?_ ?_
      · intro vx n1 A1 B1 c1 e1 hn1 hn1' hAB1
        obtain ⟨a1, b1⟩ := hAB1 i hi
        refine yU g p i ws (vx :: vs) n1 A1 B1 c1 hg hp (by omega) hn1' lw (by rw [List.length_cons]; omega) h7 ?_
        refine ih g (cy g p) i a b n1 A1 B1 c1 _ (vx :: vs) d (k + 1) (by omega) hn1' hg (by omega) (by omega) (a1.trans hA) (b1.trans hB) (by rw [List.length_cons]; omega) (by rw [List.length_cons]; omega) (by omega) (by omega) ?_ ?_
        · intro vy n2 A2 B2 c2 e2 hn2 hn2' hAB2
          have hAB : ∀ j, j < n → A2 j = A j ∧ B2 j = B j := fun j hj => ⟨(hAB2 j (by omega)).1.trans (hAB1 j hj).1, (hAB2 j (by omega)).2.trans (hAB1 j hj).2⟩
          by_cases k4 : kd g p < 4
          · exact yO g p i ws vs n2 A2 B2 c2 vx vy hg hp (by omega) hn2' lw lv k4 (KS _ _ _ _ _ (fa_evTo k4 e1 e2) (by omega) hn2' hAB)
          by_cases h60 : 60 ≤ n2
          · exact yX g p i ws vs n2 A2 B2 c2 vx vy hg hp (by omega) hn2' lw lv h7 k4 (by omega) (KN _ _ (fa_evTt h7 k4 h60 e1 e2))
          have hev := fa_evTc h7 k4 h60 e1 e2
          have hg' : kd g p - 4 < 4 := by omega
          obtain ⟨w0, w14, ws', we, wj, _⟩ := hW (kd g p - 4) hg'
          refine yK g p i ws vs n2 A2 B2 c2 vx vy hg hp (by omega) hn2' lw lv h7 k4 (by omega) ?_
          refine ih (kd g p - 4) (sz (kd g p - 4) - 1) n2 vx vy (n2 + 1) _ _ _ ws vs (d + 1) 0 (by omega) (by omega) hg' (by omega) (by omega) pk_us pk_us (by omega) (by omega) (by omega) (by omega) ?_ ?_
          · intro v n3 A3 B3 c3 e3 hn3 hn3' hAB3
            refine KS _ _ _ _ _ (hev.trans e3) (by omega) hn3' (fun j hj => ?_)
            obtain ⟨q1, q2⟩ := hAB3 j (by omega)
            rw [pk_un (by omega)] at q1 q2
            exact ⟨q1.trans (hAB j hj).1, q2.trans (hAB j hj).2⟩
          · intro n3 c3 e3
            exact KN _ _ (hev.trans e3)
        · intro n2 c2 e2
          exact KN _ _ (fa_evTm h7 e1 e2)
      · intro n1 c1 e1
        exact KN _ _ (fa_evTn h7 e1)
    · refine yH g p i ws vs n A B c hg hp hi hn lw lv h11 ?_
      refine ih g (cc g p) i a b n A B c _ vs d (k + 1) (by omega) hn hg (by omega) hi hA hB (by rw [List.length_cons]; omega) (by omega) (by omega) hd ?_ ?_
      · intro vc n1 A1 B1 c1' e1 hn1 hn1' hAB1
        obtain ⟨a1, b1⟩ := hAB1 i hi
        refine yI g p i ws vs n1 A1 B1 c1' vc hg hp (by omega) hn1' lw lv h11 ?_
        by_cases hz : vc = 0
        · have hev := fa_evHz h11 e1 hz
          rw [if_pos hz]
          refine ih g (cy g p) i a b n1 A1 B1 c1' ws vs d k (by omega) hn1' hg (by omega) (by omega) (a1.trans hA) (b1.trans hB) hw hv (by omega) (by omega) ?_ ?_
          · intro vy n2 A2 B2 c2 e2 hn2 hn2' hAB2
            exact KS _ _ _ _ _ (hev.trans e2) (by omega) hn2' (fun j hj => ⟨(hAB2 j (by omega)).1.trans (hAB1 j hj).1, (hAB2 j (by omega)).2.trans (hAB1 j hj).2⟩)
          · intro n2 c2 e2
            exact KN _ _ (hev.trans e2)
        · have hev := fa_evHx h11 e1 hz
          rw [if_neg hz]
          refine ih g (cx g p) i a b n1 A1 B1 c1' ws vs d k (by omega) hn1' hg (by omega) (by omega) (a1.trans hA) (b1.trans hB) hw hv (by omega) (by omega) ?_ ?_
          · intro vy n2 A2 B2 c2 e2 hn2 hn2' hAB2
            exact KS _ _ _ _ _ (hev.trans e2) (by omega) hn2' (fun j hj => ⟨(hAB2 j (by omega)).1.trans (hAB1 j hj).1, (hAB2 j (by omega)).2.trans (hAB1 j hj).2⟩)
          · intro n2 c2 e2
            exact KN _ _ (hev.trans e2)
      · intro n1 c1' e1
        exact KN _ _ (fa_evHn h11 e1)
end
section
theorem yq_pack (i t s : Nat) : (nI i * 128 + nI t) * 4 + nI s = nI ((i * 128 + t) * 4 + s) := by
  show (nI i * nI 128 + nI t) * nI 4 + nI s = _
  rw [pk_mul, nI_add, pk_mul, nI_add]
theorem yq_d1 (i t s : Nat) (hi : i < 61) (ht : t < 70) (hs : s < 4) : nI ((i * 128 + t) * 4 + s) - nI ((i * 128 + t) * 4 + s) / 4 * 4 = nI s := by
  have h := pk_rem (a := (i * 128 + t) * 4 + s) (d := 4) (by omega) (by omega) (by omega)
  have e : ((i * 128 + t) * 4 + s) % 4 = s := by omega
  rw [e] at h
  exact h
theorem yq_d2 (i t s : Nat) (hi : i < 61) (ht : t < 70) (hs : s < 4) : nI ((i * 128 + t) * 4 + s) / 4 - nI ((i * 128 + t) * 4 + s) / 4 / 128 * 128 = nI t := by
  have q := pk_div (a := (i * 128 + t) * 4 + s) (d := 4) (by omega) (by omega) (by omega)
  have e : ((i * 128 + t) * 4 + s) / 4 = i * 128 + t := by omega
  rw [e] at q
  have q' : nI ((i * 128 + t) * 4 + s) / 4 = nI (i * 128 + t) := q
  rw [q']
  have h := pk_rem (a := i * 128 + t) (d := 128) (by omega) (by omega) (by omega)
  have e2 : (i * 128 + t) % 128 = t := by omega
  rw [e2] at h
  exact h
theorem yq_d3 (i t s : Nat) (hi : i < 61) (ht : t < 70) (hs : s < 4) : nI ((i * 128 + t) * 4 + s) / 512 = nI i := by
  have h := pk_div (a := (i * 128 + t) * 4 + s) (d := 512) (by omega) (by omega) (by omega)
  have e : ((i * 128 + t) * 4 + s) / 512 = i := by omega
  rw [e] at h
  exact h
def yq_Ws (W : Nat → Int32) : List (Nat × Nat × Nat) → Prop
  | [] => True
  | (t, s, i) :: ws => W ws.length = nI ((i * 128 + t) * 4 + s) ∧ yq_Ws W ws
theorem yq_Wc {W W' : Nat → Int32} : ∀ ws : List (Nat × Nat × Nat), (∀ i, i < ws.length → W' i = W i) → yq_Ws W ws → yq_Ws W' ws
  | [], _, _ => True.intro
  | (t, s, i) :: ws, h, hV => ⟨(h ws.length (Nat.lt_succ_self _)).trans hV.1, yq_Wc ws (fun i hi => h i (Nat.lt_succ_of_lt hi)) hV.2⟩
theorem yq_Wup {W : Nat → Int32} {ws : List (Nat × Nat × Nat)} {j : Nat} {x : Int32} (h : yq_Ws W ws) (hj : ws.length ≤ j) : yq_Ws (upd W j x) ws :=
  yq_Wc ws (fun i hi => pk_un (by omega)) h
/-- what the reference holds at place p of row g -/
def yq_R (K P N num : Nat → Int32) (g : Nat) (k cc cx cy : Nat → Nat) (p : Nat) : Prop :=
  (k p = 8 → K (14 * g + p) = nI 9 ∧ N (14 * g + p) = num (14 * g + p)) ∧
  (k p = 9 → K (14 * g + p) = nI 10 ∧ N (14 * g + p) = nI 0) ∧
  (k p = 10 → K (14 * g + p) = nI 10 ∧ N (14 * g + p) = nI 1) ∧
  (k p ≤ 7 → K (14 * g + p) = nI (k p) ∧ P (3 * (14 * g + p)) = nI (14 * g + cx p) ∧ P (3 * (14 * g + p) + 1) = nI (14 * g + cy p)) ∧
  (k p = 11 → K (14 * g + p) = nI 8 ∧ P (3 * (14 * g + p)) = nI (14 * g + cc p) ∧ P (3 * (14 * g + p) + 1) = nI (14 * g + cx p) ∧ P (3 * (14 * g + p) + 2) = nI (14 * g + cy p))
/-- the reference's loop goes well from here -/
def yq_M (post : Int32 → SY → Prop) (f_made f_depth : Int32) (a_kinds a_parts a_numbers a_roots a_stack : Nat → Int32) (ws : List (Nat × Nat × Nat)) (vs : List Int32) (n : Nat) (A B c : Nat → Int32) : Prop :=
  ∀ a_waits a_values a_firsts a_seconds a_counts : Nat → Int32, yq_Ws a_waits ws → xq_Vs a_values vs → (∀ j, j < n → a_firsts j = A j ∧ a_seconds j = B j) → (∀ g, g < 4 → a_counts g = c g) →
    ∃ N, wY_work_50 post N f_made f_depth (nI ws.length) (nI vs.length) (nI n) (0) a_kinds a_parts a_numbers a_roots a_stack a_waits a_values a_firsts a_seconds a_counts
def yq_E (post : Int32 → SY → Prop) (f_made f_depth : Int32) (a_kinds a_parts a_numbers a_roots a_stack : Nat → Int32) (r t : Int32) (n : Nat) (c : Nat → Int32) : Prop :=
  ∀ (f_waiting f_held : Int32) (a_waits a_values a_firsts a_seconds a_counts : Nat → Int32), (∀ g, g < 4 → a_counts g = c g) → post r (f_made, f_depth, f_waiting, f_held, nI n, t, a_kinds, a_parts, a_numbers, a_roots, a_stack, a_waits, a_values, a_firsts, a_seconds, a_counts)
section
variable {f_made f_depth f_waiting f_held f_called f_tired : Int32} {a_kinds a_parts a_numbers a_roots a_stack a_waits a_values a_firsts a_seconds a_counts : Nat → Int32}
theorem yq_wait {post : SY → Prop} {x0 x1 x2 : Int32} (k t s i : Nat) (h0 : x0 = nI t) (h1 : x1 = nI s) (h2 : x2 = nI i) (hk : k < 440) (H : post (f_made, f_depth, nI (k + 1), f_held, f_called, f_tired, a_kinds, a_parts, a_numbers, a_roots, a_stack, upd a_waits k (nI ((i * 128 + t) * 4 + s)), a_values, a_firsts, a_seconds, a_counts)) : wpY_wait post (f_made, f_depth, nI k, f_held, f_called, f_tired, a_kinds, a_parts, a_numbers, a_roots, a_stack, a_waits, a_values, a_firsts, a_seconds, a_counts) x0 x1 x2 := by
  subst h0 h1 h2
  refine ⟨vp_in_nI hk (by decide), nm_r (e' := upd a_waits k (nI ((i * 128 + t) * 4 + s))) (by rw [nI_clamp (by omega), yq_pack]) ?_⟩
  exact nm_r (nI_1 k) H
theorem yq_hold {post : SY → Prop} {x : Int32} (q : Nat) (hq : q < 440) (H : post (f_made, f_depth, f_waiting, nI (q + 1), f_called, f_tired, a_kinds, a_parts, a_numbers, a_roots, a_stack, a_waits, upd a_values q x, a_firsts, a_seconds, a_counts)) : wpY_hold post (f_made, f_depth, f_waiting, nI q, f_called, f_tired, a_kinds, a_parts, a_numbers, a_roots, a_stack, a_waits, a_values, a_firsts, a_seconds, a_counts) x := by
  refine ⟨vp_in_nI hq (by decide), nm_r (e' := upd a_values q x) (by rw [nI_clamp (by omega)]) ?_⟩
  exact nm_r (nI_1 q) H
theorem yq_call {post : SY → Prop} {x p1 p2 : Int32} (n g k r : Nat) (hx : x = nI g) (hg : g < 4) (hn : n < 60) (hk : k < 440) (hr : a_roots g = nI r)
    (H : post (f_made, f_depth, nI (k + 1), f_held, nI (n + 1), f_tired, a_kinds, a_parts, a_numbers, a_roots, a_stack, upd a_waits k (nI ((n * 128 + r) * 4 + 0)), a_values, upd a_firsts n p1, upd a_seconds n p2, upd a_counts g (a_counts g + 1))) :
    wpY_call post (f_made, f_depth, nI k, f_held, nI n, f_tired, a_kinds, a_parts, a_numbers, a_roots, a_stack, a_waits, a_values, a_firsts, a_seconds, a_counts) x p1 p2 := by
  subst hx
  have cg : (nI g).toNatClampNeg = g := nI_clamp (by omega)
  refine br_f (fun z => by have := (nI_eq (b := 60) (by omega) (by decide)).mp z; omega) ?_
  refine ⟨vp_in_nI (by omega) (by decide), nm_r (e' := upd a_firsts n p1) (by rw [nI_clamp (by omega)]) ?_⟩
  refine ⟨vp_in_nI (by omega) (by decide), nm_r (e' := upd a_seconds n p2) (by rw [nI_clamp (by omega)]) ?_⟩
  refine ⟨vp_in_nI hg (by decide), ⟨vp_in_nI hg (by decide), nm_r (e' := upd a_counts g (a_counts g + 1)) (by rw [cg]) ⟨vp_in_nI hg (by decide), ?_⟩⟩⟩
  refine yq_wait k r 0 n (by rw [cg]; exact hr) rfl rfl hk ?_
  exact nm_r (nI_1 n) H
theorem yq_callT {post : SY → Prop} {x p1 p2 : Int32} (H : post (f_made, f_depth, f_waiting, f_held, nI 60, 1, a_kinds, a_parts, a_numbers, a_roots, a_stack, a_waits, a_values, a_firsts, a_seconds, a_counts)) : wpY_call post (f_made, f_depth, f_waiting, f_held, nI 60, f_tired, a_kinds, a_parts, a_numbers, a_roots, a_stack, a_waits, a_values, a_firsts, a_seconds, a_counts) x p1 p2 := br_t rfl H
theorem yq_step {post : Int32 → SY → Prop} {N : Nat} (k i t s : Nat) (hk : k < 440) (hi : i < 61) (ht : t < 70) (hs : s < 4) (hW : a_waits k = nI ((i * 128 + t) * 4 + s))
    (H : (nI s = 0 → wpY_begin (fun u => match u with | (f_made, f_depth, f_waiting, f_held, f_called, f_tired, a_kinds, a_parts, a_numbers, a_roots, a_stack, a_waits, a_values, a_firsts, a_seconds, a_counts) => wY_work_50 post N f_made f_depth f_waiting f_held f_called f_tired a_kinds a_parts a_numbers a_roots a_stack a_waits a_values a_firsts a_seconds a_counts) (f_made, f_depth, nI k, f_held, f_called, 0, a_kinds, a_parts, a_numbers, a_roots, a_stack, a_waits, a_values, a_firsts, a_seconds, a_counts) (nI t) (nI i)) ∧ (¬ nI s = 0 → wpY_goOn (fun u => match u with | (f_made, f_depth, f_waiting, f_held, f_called, f_tired, a_kinds, a_parts, a_numbers, a_roots, a_stack, a_waits, a_values, a_firsts, a_seconds, a_counts) => wY_work_50 post N f_made f_depth f_waiting f_held f_called f_tired a_kinds a_parts a_numbers a_roots a_stack a_waits a_values a_firsts a_seconds a_counts) (f_made, f_depth, nI k, f_held, f_called, 0, a_kinds, a_parts, a_numbers, a_roots, a_stack, a_waits, a_values, a_firsts, a_seconds, a_counts) (nI t) (nI s) (nI i))) :
    wY_work_50 post (N + 1) f_made f_depth (nI (k + 1)) f_held f_called (0) a_kinds a_parts a_numbers a_roots a_stack a_waits a_values a_firsts a_seconds a_counts := by
  have ck : (nI k).toNatClampNeg = k := nI_clamp (by omega)
  have vk : vp_in (nI k) 440 := vp_in_nI hk (by decide)
  refine br_f (nI_nle (by omega) (by omega)) (br_t rfl (nm_r (e' := nI k) (nI_pred k) ⟨vk, by decide, nm_r (e' := nI s) ?_ ⟨vk, by decide, by decide, nm_r (e' := nI t) ?_ ⟨vk, by decide, nm_r (e' := nI i) ?_ H⟩⟩⟩))
  · rw [ck, hW]; exact yq_d1 i t s hi ht hs
  · rw [ck, hW]; exact yq_d2 i t s hi ht hs
  · rw [ck, hW]; exact yq_d3 i t s hi ht hs
theorem yq_finish_o {post : SY → Prop} {x y z : Int32} (k q : Nat) (hk : k < 4) (hz : z = nI k) (hq : q + 1 < 440) (hx : a_values q = x) (hy : a_values (q + 1) = y)
    (H : post (f_made, f_depth, f_waiting, nI (q + 1), f_called, f_tired, a_kinds, a_parts, a_numbers, a_roots, a_stack, a_waits, upd a_values q (fa_comb k x y), a_firsts, a_seconds, a_counts)) : wpY_finish post (f_made, f_depth, f_waiting, nI (q + 2), f_called, f_tired, a_kinds, a_parts, a_numbers, a_roots, a_stack, a_waits, a_values, a_firsts, a_seconds, a_counts) z := by
  subst hz
  refine nm_r (e' := nI q) (pk_sub (a := q + 2) (b := 2) (by omega)) ?_
  refine ⟨vp_in_nI (by omega) (by decide), nm_r (e' := x) (by rw [nI_clamp (by omega)]; exact hx) ?_⟩
  refine ⟨by rw [nI_1]; exact vp_in_nI hq (by decide), nm_r (e' := y) (by rw [nI_1, nI_clamp (by omega)]; exact hy) ?_⟩
  refine br_t (nI_le (b := 3) (by omega) (by decide)) ?_
  unfold fa_comb at H
  by_cases h0 : k = 0
  · rw [if_pos h0] at H; subst h0
    exact br_t rfl (yq_hold q (by omega) H)
  rw [if_neg h0] at H
  refine br_f (nI_ne0 (by omega) (by omega)) ?_
  by_cases h1 : k = 1
  · rw [if_pos h1] at H; subst h1
    exact br_t rfl (yq_hold q (by omega) H)
  rw [if_neg h1] at H
  refine br_f (fun z => h1 ((nI_eq (by omega) (by decide)).mp z)) ?_
  by_cases h2 : k = 2
  · rw [if_pos h2] at H; subst h2
    exact br_t rfl (yq_hold q (by omega) H)
  rw [if_neg h2] at H
  refine br_f (fun z => h2 ((nI_eq (by omega) (by decide)).mp z)) ?_
  by_cases hxy : x < y
  · rw [if_pos hxy] at H
    exact br_f (Int32.not_le.mpr hxy) (yq_hold q (by omega) H)
  · rw [if_neg hxy] at H
    exact br_t (Int32.not_lt.mp hxy) (yq_hold q (by omega) H)
theorem yq_finish_c {post : SY → Prop} {x y z : Int32} (k q : Nat) (hk : k ≤ 7) (hk4 : ¬ k < 4) (hz : z = nI k) (hq : q + 1 < 440) (hx : a_values q = x) (hy : a_values (q + 1) = y)
    (H : wpY_call post (f_made, f_depth, f_waiting, nI q, f_called, f_tired, a_kinds, a_parts, a_numbers, a_roots, a_stack, a_waits, a_values, a_firsts, a_seconds, a_counts) (nI (k - 4)) x y) : wpY_finish post (f_made, f_depth, f_waiting, nI (q + 2), f_called, f_tired, a_kinds, a_parts, a_numbers, a_roots, a_stack, a_waits, a_values, a_firsts, a_seconds, a_counts) z := by
  subst hz
  refine nm_r (e' := nI q) (pk_sub (a := q + 2) (b := 2) (by omega)) ?_
  refine ⟨vp_in_nI (by omega) (by decide), nm_r (e' := x) (by rw [nI_clamp (by omega)]; exact hx) ?_⟩
  refine ⟨by rw [nI_1]; exact vp_in_nI hq (by decide), nm_r (e' := y) (by rw [nI_1, nI_clamp (by omega)]; exact hy) ?_⟩
  refine br_f (nI_ge (a := 3) (by omega) (by omega)) ?_
  have e : nI k - 4 = nI (k - 4) := pk_sub (b := 4) (by omega)
  rw [e]
  exact H
end
section
variable {post : Int32 → SY → Prop} {f_made f_depth : Int32} {a_kinds a_parts a_numbers a_roots a_stack num : Nat → Int32} {kd cc cx cy : Nat → Nat → Nat} {sz : Nat → Nat}
theorem yq_C (hR : ∀ g, g < 4 → ∀ p, p < sz g → yq_R a_kinds a_parts a_numbers num g (kd g) (cc g) (cx g) (cy g) p) (hz : ∀ g, g < 4 → sz g ≤ 14 ∧ a_roots g = nI (14 * g + (sz g - 1))) (g p i : Nat) (ws : List (Nat × Nat × Nat)) (vs : List Int32) (n : Nat) (A B c : Nat → Int32) (hg : g < 4) (hp : p < sz g) (hi : i < n) (hn : n ≤ 60) (lw : ws.length < 400) (lv : vs.length < 400) (hk : kd g p = 8) (H : yq_M post f_made f_depth a_kinds a_parts a_numbers a_roots a_stack ws (num (14 * g + p) :: vs) n A B c) : yq_M post f_made f_depth a_kinds a_parts a_numbers a_roots a_stack ((14 * g + p, 0, i) :: ws) vs n A B c := by
  intro a_waits a_values a_firsts a_seconds a_counts hW hV hAB hc
  obtain ⟨w1, hW'⟩ := hW
  have z := (hz g hg).1
  have rr := hR g hg p hp
  have ct : (nI (14 * g + p)).toNatClampNeg = 14 * g + p := nI_clamp (by omega)
  have vt : vp_in (nI (14 * g + p)) 70 := vp_in_nI (by omega) (by decide)
  obtain ⟨q1, q2⟩ := rr.1 hk
  have ab := hAB i hi
  obtain ⟨N, hN⟩ := H a_waits (upd a_values vs.length (num (14 * g + p))) a_firsts a_seconds a_counts hW' ⟨pk_us, xq_Vup hV (Nat.le_refl _)⟩ hAB hc
  refine ⟨N + 1, ?_⟩
  refine yq_step ws.length i (14 * g + p) 0 (by omega) (by omega) (by omega) (by omega) w1 (br_t rfl ?_)
  refine ⟨vt, br_t (by rw [ct]; exact q1) ⟨vt, ?_⟩⟩
  rw [ct, q2]
  exact yq_hold vs.length (by omega) hN
theorem yq_F (hR : ∀ g, g < 4 → ∀ p, p < sz g → yq_R a_kinds a_parts a_numbers num g (kd g) (cc g) (cx g) (cy g) p) (hz : ∀ g, g < 4 → sz g ≤ 14 ∧ a_roots g = nI (14 * g + (sz g - 1))) (g p i : Nat) (ws : List (Nat × Nat × Nat)) (vs : List Int32) (n : Nat) (A B c : Nat → Int32) (hg : g < 4) (hp : p < sz g) (hi : i < n) (hn : n ≤ 60) (lw : ws.length < 400) (lv : vs.length < 400) (hk : kd g p = 9) (H : yq_M post f_made f_depth a_kinds a_parts a_numbers a_roots a_stack ws (A i :: vs) n A B c) : yq_M post f_made f_depth a_kinds a_parts a_numbers a_roots a_stack ((14 * g + p, 0, i) :: ws) vs n A B c := by
  intro a_waits a_values a_firsts a_seconds a_counts hW hV hAB hc
  obtain ⟨w1, hW'⟩ := hW
  have z := (hz g hg).1
  have rr := hR g hg p hp
  have ct : (nI (14 * g + p)).toNatClampNeg = 14 * g + p := nI_clamp (by omega)
  have vt : vp_in (nI (14 * g + p)) 70 := vp_in_nI (by omega) (by decide)
  obtain ⟨q1, q2⟩ := rr.2.1 hk
  have ab := hAB i hi
  obtain ⟨N, hN⟩ := H a_waits (upd a_values vs.length (A i)) a_firsts a_seconds a_counts hW' ⟨pk_us, xq_Vup hV (Nat.le_refl _)⟩ hAB hc
  refine ⟨N + 1, ?_⟩
  refine yq_step ws.length i (14 * g + p) 0 (by omega) (by omega) (by omega) (by omega) w1 (br_t rfl ?_)
  refine ⟨vt, br_f (by rw [ct, q1]; decide) ⟨vt, br_t (by rw [ct]; exact q1) ⟨vt, ?_⟩⟩⟩
  refine br_t (by rw [ct]; exact q2) ⟨vp_in_nI (by omega) (by decide), ?_⟩
  rw [nI_clamp (n := i) (by omega), ab.1]
  unfold wY_begin_60
  exact yq_hold vs.length (by omega) hN
theorem yq_S (hR : ∀ g, g < 4 → ∀ p, p < sz g → yq_R a_kinds a_parts a_numbers num g (kd g) (cc g) (cx g) (cy g) p) (hz : ∀ g, g < 4 → sz g ≤ 14 ∧ a_roots g = nI (14 * g + (sz g - 1))) (g p i : Nat) (ws : List (Nat × Nat × Nat)) (vs : List Int32) (n : Nat) (A B c : Nat → Int32) (hg : g < 4) (hp : p < sz g) (hi : i < n) (hn : n ≤ 60) (lw : ws.length < 400) (lv : vs.length < 400) (hk : kd g p = 10) (H : yq_M post f_made f_depth a_kinds a_parts a_numbers a_roots a_stack ws (B i :: vs) n A B c) : yq_M post f_made f_depth a_kinds a_parts a_numbers a_roots a_stack ((14 * g + p, 0, i) :: ws) vs n A B c := by
  intro a_waits a_values a_firsts a_seconds a_counts hW hV hAB hc
  obtain ⟨w1, hW'⟩ := hW
  have z := (hz g hg).1
  have rr := hR g hg p hp
  have ct : (nI (14 * g + p)).toNatClampNeg = 14 * g + p := nI_clamp (by omega)
  have vt : vp_in (nI (14 * g + p)) 70 := vp_in_nI (by omega) (by decide)
  obtain ⟨q1, q2⟩ := rr.2.2.1 hk
  have ab := hAB i hi
  obtain ⟨N, hN⟩ := H a_waits (upd a_values vs.length (B i)) a_firsts a_seconds a_counts hW' ⟨pk_us, xq_Vup hV (Nat.le_refl _)⟩ hAB hc
  refine ⟨N + 1, ?_⟩
  refine yq_step ws.length i (14 * g + p) 0 (by omega) (by omega) (by omega) (by omega) w1 (br_t rfl ?_)
  refine ⟨vt, br_f (by rw [ct, q1]; decide) ⟨vt, br_t (by rw [ct]; exact q1) ⟨vt, ?_⟩⟩⟩
  refine br_f (by rw [ct, q2]; decide) ⟨vp_in_nI (by omega) (by decide), ?_⟩
  rw [nI_clamp (n := i) (by omega), ab.2]
  unfold wY_begin_60
  exact yq_hold vs.length (by omega) hN
theorem yq_T (hR : ∀ g, g < 4 → ∀ p, p < sz g → yq_R a_kinds a_parts a_numbers num g (kd g) (cc g) (cx g) (cy g) p) (hz : ∀ g, g < 4 → sz g ≤ 14 ∧ a_roots g = nI (14 * g + (sz g - 1))) (g p i : Nat) (ws : List (Nat × Nat × Nat)) (vs : List Int32) (n : Nat) (A B c : Nat → Int32) (hg : g < 4) (hp : p < sz g) (hi : i < n) (hn : n ≤ 60) (lw : ws.length < 400) (lv : vs.length < 400) (hk : kd g p ≤ 7) (H : yq_M post f_made f_depth a_kinds a_parts a_numbers a_roots a_stack ((14 * g + cx g p, 0, i) :: (14 * g + p, 1, i) :: ws) vs n A B c) : yq_M post f_made f_depth a_kinds a_parts a_numbers a_roots a_stack ((14 * g + p, 0, i) :: ws) vs n A B c := by
  intro a_waits a_values a_firsts a_seconds a_counts hW hV hAB hc
  obtain ⟨w1, hW'⟩ := hW
  have z := (hz g hg).1
  have rr := hR g hg p hp
  have ct : (nI (14 * g + p)).toNatClampNeg = 14 * g + p := nI_clamp (by omega)
  have vt : vp_in (nI (14 * g + p)) 70 := vp_in_nI (by omega) (by decide)
  obtain ⟨q1, q2, q3⟩ := rr.2.2.2.1 hk
  obtain ⟨N, hN⟩ := H (upd (upd a_waits ws.length (nI ((i * 128 + (14 * g + p)) * 4 + 1))) (ws.length + 1) (nI ((i * 128 + (14 * g + cx g p)) * 4 + 0))) a_values a_firsts a_seconds a_counts ⟨pk_us, (pk_un (by omega)).trans pk_us, yq_Wup (yq_Wup hW' (Nat.le_refl _)) (by omega)⟩ hV hAB hc
  refine ⟨N + 1, ?_⟩
  refine yq_step ws.length i (14 * g + p) 0 (by omega) (by omega) (by omega) (by omega) w1 (br_t rfl ?_)
  refine ⟨vt, br_f (by rw [ct, q1]; exact fun z => by have := (nI_eq (b := 9) (by omega) (by decide)).mp z; omega) ⟨vt, br_f (by rw [ct, q1]; exact fun z => by have := (nI_eq (b := 10) (by omega) (by decide)).mp z; omega) ?_⟩⟩
  refine yq_wait ws.length (14 * g + p) 1 i rfl rfl rfl (by omega) ?_
  refine ⟨by rw [show (3 : Int32) * nI (14 * g + p) = nI (3 * (14 * g + p)) from pk_mul 3 _]; exact vp_in_nI (by omega) (by decide), ?_⟩
  refine yq_wait (ws.length + 1) (14 * g + cx g p) 0 i (by rw [show (3 : Int32) * nI (14 * g + p) = nI (3 * (14 * g + p)) from pk_mul 3 _, nI_clamp (by omega)]; exact q2) rfl rfl (by omega) ?_
  exact hN
theorem yq_H (hR : ∀ g, g < 4 → ∀ p, p < sz g → yq_R a_kinds a_parts a_numbers num g (kd g) (cc g) (cx g) (cy g) p) (hz : ∀ g, g < 4 → sz g ≤ 14 ∧ a_roots g = nI (14 * g + (sz g - 1))) (g p i : Nat) (ws : List (Nat × Nat × Nat)) (vs : List Int32) (n : Nat) (A B c : Nat → Int32) (hg : g < 4) (hp : p < sz g) (hi : i < n) (hn : n ≤ 60) (lw : ws.length < 400) (lv : vs.length < 400) (hk : kd g p = 11) (H : yq_M post f_made f_depth a_kinds a_parts a_numbers a_roots a_stack ((14 * g + cc g p, 0, i) :: (14 * g + p, 1, i) :: ws) vs n A B c) : yq_M post f_made f_depth a_kinds a_parts a_numbers a_roots a_stack ((14 * g + p, 0, i) :: ws) vs n A B c := by
  intro a_waits a_values a_firsts a_seconds a_counts hW hV hAB hc
  obtain ⟨w1, hW'⟩ := hW
  have z := (hz g hg).1
  have rr := hR g hg p hp
  have ct : (nI (14 * g + p)).toNatClampNeg = 14 * g + p := nI_clamp (by omega)
  have vt : vp_in (nI (14 * g + p)) 70 := vp_in_nI (by omega) (by decide)
  obtain ⟨q1, q2, q3, q4⟩ := rr.2.2.2.2 hk
  obtain ⟨N, hN⟩ := H (upd (upd a_waits ws.length (nI ((i * 128 + (14 * g + p)) * 4 + 1))) (ws.length + 1) (nI ((i * 128 + (14 * g + cc g p)) * 4 + 0))) a_values a_firsts a_seconds a_counts ⟨pk_us, (pk_un (by omega)).trans pk_us, yq_Wup (yq_Wup hW' (Nat.le_refl _)) (by omega)⟩ hV hAB hc
  refine ⟨N + 1, ?_⟩
  refine yq_step ws.length i (14 * g + p) 0 (by omega) (by omega) (by omega) (by omega) w1 (br_t rfl ?_)
  refine ⟨vt, br_f (by rw [ct, q1]; exact by decide) ⟨vt, br_f (by rw [ct, q1]; exact by decide) ?_⟩⟩
  refine yq_wait ws.length (14 * g + p) 1 i rfl rfl rfl (by omega) ?_
  refine ⟨by rw [show (3 : Int32) * nI (14 * g + p) = nI (3 * (14 * g + p)) from pk_mul 3 _]; exact vp_in_nI (by omega) (by decide), ?_⟩
  refine yq_wait (ws.length + 1) (14 * g + cc g p) 0 i (by rw [show (3 : Int32) * nI (14 * g + p) = nI (3 * (14 * g + p)) from pk_mul 3 _, nI_clamp (by omega)]; exact q2) rfl rfl (by omega) ?_
  exact hN
theorem yq_U (hR : ∀ g, g < 4 → ∀ p, p < sz g → yq_R a_kinds a_parts a_numbers num g (kd g) (cc g) (cx g) (cy g) p) (hz : ∀ g, g < 4 → sz g ≤ 14 ∧ a_roots g = nI (14 * g + (sz g - 1))) (g p i : Nat) (ws : List (Nat × Nat × Nat)) (vs : List Int32) (n : Nat) (A B c : Nat → Int32) (hg : g < 4) (hp : p < sz g) (hi : i < n) (hn : n ≤ 60) (lw : ws.length < 400) (lv : vs.length < 400) (hk : kd g p ≤ 7) (H : yq_M post f_made f_depth a_kinds a_parts a_numbers a_roots a_stack ((14 * g + cy g p, 0, i) :: (14 * g + p, 2, i) :: ws) vs n A B c) : yq_M post f_made f_depth a_kinds a_parts a_numbers a_roots a_stack ((14 * g + p, 1, i) :: ws) vs n A B c := by
  intro a_waits a_values a_firsts a_seconds a_counts hW hV hAB hc
  obtain ⟨w1, hW'⟩ := hW
  have z := (hz g hg).1
  have rr := hR g hg p hp
  have ct : (nI (14 * g + p)).toNatClampNeg = 14 * g + p := nI_clamp (by omega)
  have vt : vp_in (nI (14 * g + p)) 70 := vp_in_nI (by omega) (by decide)
  obtain ⟨q1, q2, q3⟩ := rr.2.2.2.1 hk
  obtain ⟨N, hN⟩ := H (upd (upd a_waits ws.length (nI ((i * 128 + (14 * g + p)) * 4 + 2))) (ws.length + 1) (nI ((i * 128 + (14 * g + cy g p)) * 4 + 0))) a_values a_firsts a_seconds a_counts ⟨pk_us, (pk_un (by omega)).trans pk_us, yq_Wup (yq_Wup hW' (Nat.le_refl _)) (by omega)⟩ hV hAB hc
  refine ⟨N + 1, ?_⟩
  refine yq_step ws.length i (14 * g + p) 1 (by omega) (by omega) (by omega) (by omega) w1 (br_f (by decide) ?_)
  refine ⟨vt, br_f (by rw [ct, q1]; exact fun z => by have := (nI_eq (b := 8) (by omega) (by decide)).mp z; omega) (br_t rfl ?_)⟩
  refine yq_wait ws.length (14 * g + p) 2 i rfl rfl rfl (by omega) ?_
  have e3 : (3 : Int32) * nI (14 * g + p) + 1 = nI (3 * (14 * g + p) + 1) := by rw [show (3 : Int32) * nI (14 * g + p) = nI (3 * (14 * g + p)) from pk_mul 3 _, nI_1]
  refine ⟨by rw [e3]; exact vp_in_nI (by omega) (by decide), ?_⟩
  refine yq_wait (ws.length + 1) (14 * g + cy g p) 0 i (by rw [e3, nI_clamp (by omega)]; exact q3) rfl rfl (by omega) ?_
  exact hN
theorem yq_O (hR : ∀ g, g < 4 → ∀ p, p < sz g → yq_R a_kinds a_parts a_numbers num g (kd g) (cc g) (cx g) (cy g) p) (hz : ∀ g, g < 4 → sz g ≤ 14 ∧ a_roots g = nI (14 * g + (sz g - 1))) (g p i : Nat) (ws : List (Nat × Nat × Nat)) (vs : List Int32) (n : Nat) (A B c : Nat → Int32) (x y : Int32) (hg : g < 4) (hp : p < sz g) (hi : i < n) (hn : n ≤ 60) (lw : ws.length < 400) (lv : vs.length < 400) (hk : kd g p < 4) (H : yq_M post f_made f_depth a_kinds a_parts a_numbers a_roots a_stack ws (fa_comb (kd g p) x y :: vs) n A B c) : yq_M post f_made f_depth a_kinds a_parts a_numbers a_roots a_stack ((14 * g + p, 2, i) :: ws) (y :: x :: vs) n A B c := by
  intro a_waits a_values a_firsts a_seconds a_counts hW hV hAB hc
  obtain ⟨w1, hW'⟩ := hW
  have z := (hz g hg).1
  have rr := hR g hg p hp
  have ct : (nI (14 * g + p)).toNatClampNeg = 14 * g + p := nI_clamp (by omega)
  have vt : vp_in (nI (14 * g + p)) 70 := vp_in_nI (by omega) (by decide)
  obtain ⟨q1, q2, q3⟩ := rr.2.2.2.1 (by omega)
  obtain ⟨v1, v2, hV'⟩ := hV
  have v1' : a_values (vs.length + 1) = y := v1
  obtain ⟨N, hN⟩ := H a_waits (upd a_values vs.length (fa_comb (kd g p) x y)) a_firsts a_seconds a_counts hW' ⟨pk_us, xq_Vup hV' (Nat.le_refl _)⟩ hAB hc
  refine ⟨N + 1, ?_⟩
  refine yq_step ws.length i (14 * g + p) 2 (by omega) (by omega) (by omega) (by omega) w1 (br_f (by decide) ?_)
  refine ⟨vt, br_f (by rw [ct, q1]; exact fun z => by have := (nI_eq (b := 8) (by omega) (by decide)).mp z; omega) (br_f (by decide) ⟨vt, ?_⟩)⟩
  refine yq_finish_o (kd g p) vs.length hk (by rw [ct]; exact q1) (by omega) v2 v1' ?_
  exact hN
theorem yq_K (hR : ∀ g, g < 4 → ∀ p, p < sz g → yq_R a_kinds a_parts a_numbers num g (kd g) (cc g) (cx g) (cy g) p) (hz : ∀ g, g < 4 → sz g ≤ 14 ∧ a_roots g = nI (14 * g + (sz g - 1))) (g p i : Nat) (ws : List (Nat × Nat × Nat)) (vs : List Int32) (n : Nat) (A B c : Nat → Int32) (x y : Int32) (hg : g < 4) (hp : p < sz g) (hi : i < n) (hn : n ≤ 60) (lw : ws.length < 400) (lv : vs.length < 400) (hk : kd g p ≤ 7) (hk4 : ¬ kd g p < 4) (hn60 : n < 60) (H : yq_M post f_made f_depth a_kinds a_parts a_numbers a_roots a_stack ((14 * (kd g p - 4) + (sz (kd g p - 4) - 1), 0, n) :: ws) vs (n + 1) (upd A n x) (upd B n y) (upd c (kd g p - 4) (c (kd g p - 4) + 1))) : yq_M post f_made f_depth a_kinds a_parts a_numbers a_roots a_stack ((14 * g + p, 2, i) :: ws) (y :: x :: vs) n A B c := by
  intro a_waits a_values a_firsts a_seconds a_counts hW hV hAB hc
  obtain ⟨w1, hW'⟩ := hW
  have z := (hz g hg).1
  have rr := hR g hg p hp
  have ct : (nI (14 * g + p)).toNatClampNeg = 14 * g + p := nI_clamp (by omega)
  have vt : vp_in (nI (14 * g + p)) 70 := vp_in_nI (by omega) (by decide)
  obtain ⟨q1, q2, q3⟩ := rr.2.2.2.1 hk
  obtain ⟨v1, v2, hV'⟩ := hV
  have v1' : a_values (vs.length + 1) = y := v1
  have hc' : ∀ h, h < 4 → upd a_counts (kd g p - 4) (a_counts (kd g p - 4) + 1) h = upd c (kd g p - 4) (c (kd g p - 4) + 1) h := by
    intro h hh
    by_cases e : h = kd g p - 4
    · rw [e, pk_us, pk_us, hc _ (by omega)]
    · rw [pk_un e, pk_un e, hc h hh]
  have hAB' : ∀ j, j < n + 1 → upd a_firsts n x j = upd A n x j ∧ upd a_seconds n y j = upd B n y j := by
    intro j hj
    by_cases e : j = n
    · rw [e, pk_us, pk_us, pk_us, pk_us]; exact ⟨rfl, rfl⟩
    · rw [pk_un e, pk_un e, pk_un e, pk_un e]; exact hAB j (by omega)
  obtain ⟨N, hN⟩ := H (upd a_waits ws.length (nI ((n * 128 + (14 * (kd g p - 4) + (sz (kd g p - 4) - 1))) * 4 + 0))) a_values _ _ _ ⟨pk_us, yq_Wup hW' (Nat.le_refl _)⟩ hV' hAB' hc'
  refine ⟨N + 1, ?_⟩
  refine yq_step ws.length i (14 * g + p) 2 (by omega) (by omega) (by omega) (by omega) w1 (br_f (by decide) ?_)
  refine ⟨vt, br_f (by rw [ct, q1]; exact fun z => by have := (nI_eq (b := 8) (by omega) (by decide)).mp z; omega) (br_f (by decide) ⟨vt, ?_⟩)⟩
  refine yq_finish_c (kd g p) vs.length hk hk4 (by rw [ct]; exact q1) (by omega) v2 v1' ?_
  refine yq_call n (kd g p - 4) ws.length (14 * (kd g p - 4) + (sz (kd g p - 4) - 1)) rfl (by omega) hn60 (by omega) (hz (kd g p - 4) (by omega)).2 ?_
  exact hN
theorem yq_exit {r t : Int32} {n : Nat} {c : Nat → Int32} {f_waiting f_held : Int32} {a_waits a_values a_firsts a_seconds a_counts : Nat → Int32} (H : wY_work_148 post f_made f_depth f_waiting f_held (nI n) (t) a_kinds a_parts a_numbers a_roots a_stack a_waits a_values a_firsts a_seconds a_counts) (h : f_waiting ≤ 0 ∨ ¬ t = 0) :
    wY_work_50 post 1 f_made f_depth f_waiting f_held (nI n) (t) a_kinds a_parts a_numbers a_roots a_stack a_waits a_values a_firsts a_seconds a_counts := by
  refine br_c (fun _ => H) (fun h' => ?_)
  rcases h with h | h
  · exact absurd h h'
  · exact br_f h H
theorem yq_X (hR : ∀ g, g < 4 → ∀ p, p < sz g → yq_R a_kinds a_parts a_numbers num g (kd g) (cc g) (cx g) (cy g) p) (hz : ∀ g, g < 4 → sz g ≤ 14 ∧ a_roots g = nI (14 * g + (sz g - 1))) (g p i : Nat) (ws : List (Nat × Nat × Nat)) (vs : List Int32) (n : Nat) (A B c : Nat → Int32) (x y : Int32) (hg : g < 4) (hp : p < sz g) (hi : i < n) (hn : n ≤ 60) (lw : ws.length < 400) (lv : vs.length < 400) (hk : kd g p ≤ 7) (hk4 : ¬ kd g p < 4) (hn60 : n = 60) (H : yq_E post f_made f_depth a_kinds a_parts a_numbers a_roots a_stack 0 1 n c) : yq_M post f_made f_depth a_kinds a_parts a_numbers a_roots a_stack ((14 * g + p, 2, i) :: ws) (y :: x :: vs) n A B c := by
  intro a_waits a_values a_firsts a_seconds a_counts hW hV hAB hc
  obtain ⟨w1, hW'⟩ := hW
  have z := (hz g hg).1
  have rr := hR g hg p hp
  have ct : (nI (14 * g + p)).toNatClampNeg = 14 * g + p := nI_clamp (by omega)
  have vt : vp_in (nI (14 * g + p)) 70 := vp_in_nI (by omega) (by decide)
  obtain ⟨q1, q2, q3⟩ := rr.2.2.2.1 hk
  obtain ⟨v1, v2, hV'⟩ := hV
  have v1' : a_values (vs.length + 1) = y := v1
  subst hn60
  refine ⟨2, ?_⟩
  refine yq_step ws.length i (14 * g + p) 2 (by omega) (by omega) (by omega) (by omega) w1 (br_f (by decide) ?_)
  refine ⟨vt, br_f (by rw [ct, q1]; exact fun z => by have := (nI_eq (b := 8) (by omega) (by decide)).mp z; omega) (br_f (by decide) ⟨vt, ?_⟩)⟩
  refine yq_finish_c (kd g p) vs.length hk hk4 (by rw [ct]; exact q1) (by omega) v2 v1' ?_
  refine yq_callT ?_
  exact yq_exit (r := 0) (c := c) (br_f (by decide) (H _ _ _ _ _ _ _ hc)) (Or.inr (by decide))
theorem yq_I (hR : ∀ g, g < 4 → ∀ p, p < sz g → yq_R a_kinds a_parts a_numbers num g (kd g) (cc g) (cx g) (cy g) p) (hz : ∀ g, g < 4 → sz g ≤ 14 ∧ a_roots g = nI (14 * g + (sz g - 1))) (g p i : Nat) (ws : List (Nat × Nat × Nat)) (vs : List Int32) (n : Nat) (A B c : Nat → Int32) (v : Int32) (hg : g < 4) (hp : p < sz g) (hi : i < n) (hn : n ≤ 60) (lw : ws.length < 400) (lv : vs.length < 400) (hk : kd g p = 11) (H : yq_M post f_made f_depth a_kinds a_parts a_numbers a_roots a_stack ((14 * g + (if v = 0 then cy g p else cx g p), 0, i) :: ws) vs n A B c) : yq_M post f_made f_depth a_kinds a_parts a_numbers a_roots a_stack ((14 * g + p, 1, i) :: ws) (v :: vs) n A B c := by
  intro a_waits a_values a_firsts a_seconds a_counts hW hV hAB hc
  obtain ⟨w1, hW'⟩ := hW
  have z := (hz g hg).1
  have rr := hR g hg p hp
  have ct : (nI (14 * g + p)).toNatClampNeg = 14 * g + p := nI_clamp (by omega)
  have vt : vp_in (nI (14 * g + p)) 70 := vp_in_nI (by omega) (by decide)
  obtain ⟨q1, q2, q3, q4⟩ := rr.2.2.2.2 hk
  obtain ⟨v1, hV'⟩ := hV
  obtain ⟨N, hN⟩ := H (upd a_waits ws.length (nI ((i * 128 + (14 * g + (if v = 0 then cy g p else cx g p))) * 4 + 0))) a_values a_firsts a_seconds a_counts ⟨pk_us, yq_Wup hW' (Nat.le_refl _)⟩ hV' hAB hc
  refine ⟨N + 1, ?_⟩
  refine yq_step ws.length i (14 * g + p) 1 (by omega) (by omega) (by omega) (by omega) w1 (br_f (by decide) ?_)
  have e3 : (3 : Int32) * nI (14 * g + p) = nI (3 * (14 * g + p)) := pk_mul 3 _
  refine ⟨vt, br_t (by rw [ct]; exact q1) ?_⟩
  refine nm_r (e' := nI vs.length) (nI_pred _) ⟨vp_in_nI (by omega) (by decide), ?_⟩
  have cv : a_values (nI vs.length).toNatClampNeg = v := by rw [nI_clamp (by omega)]; exact v1
  rw [cv]
  by_cases v0 : v = 0
  · rw [if_pos v0] at hN
    refine br_t v0 ?_
    have e4 : (3 : Int32) * nI (14 * g + p) + 2 = nI (3 * (14 * g + p) + 2) := by rw [e3]; exact nI_add _ 2
    refine ⟨by rw [e4]; exact vp_in_nI (by omega) (by decide), ?_⟩
    exact yq_wait ws.length (14 * g + cy g p) 0 i (by rw [e4, nI_clamp (by omega)]; exact q4) rfl rfl (by omega) hN
  · rw [if_neg v0] at hN
    refine br_f v0 ?_
    have e4 : (3 : Int32) * nI (14 * g + p) + 1 = nI (3 * (14 * g + p) + 1) := by rw [e3]; exact nI_add _ 1
    refine ⟨by rw [e4]; exact vp_in_nI (by omega) (by decide), ?_⟩
    exact yq_wait ws.length (14 * g + cx g p) 0 i (by rw [e4, nI_clamp (by omega)]; exact q3) rfl rfl (by omega) hN
end
end
section
/-- a run of f with a and b, by the evaluator -/
def fa_res (kd cc cx cy : Nat → Nat → Nat) (sz : Nat → Nat) (num : Nat → Int32) (f : Nat) (a b : Int32) : Option Int32 × Nat × (Nat → Int32) :=
  fa_ev kd (fun g p => num (14 * g + p)) cc cx cy sz 901 f (sz f - 1) a b 1 (upd (fun _ => 0) f 1)
def fa_val (r : Option Int32 × Nat × (Nat → Int32)) : Int32 := match r with
  | (some v, _, _) => v
  | (none, _, _) => 0
def fa_td (r : Option Int32 × Nat × (Nat → Int32)) : Int32 := match r with
  | (some _, _, _) => 0
  | (none, _, _) => 1
section
variable {f_stacked f_made f_open f_valueCount f_enteredInAll f_tired : Int32} {a_kind a_number a_elsePlace a_jumpPlace a_bodySize a_stack a_openFunction a_openFirst a_openSecond a_openPlace a_values a_entered : Nat → Int32} {post : Int32 → SX → Prop} {kd el ju st cc cx cy : Nat → Nat → Nat} {sz : Nat → Nat}
theorem xq_work (hK : xq_R a_kind kd) (hE : xq_R a_elsePlace el) (hJ : xq_R a_jumpPlace ju) (hz : ∀ g, g < 4 → a_bodySize g = nI (sz g) ∧ sz g ≤ 14) (hW : ∀ g, g < 4 → fa_Bd (kd g) (st g) (el g) (ju g) (cc g) (cx g) (cy g) (sz g)) (f : Nat) (hf : f < 4) (a b : Int32)
    (H : xq_E post f_stacked f_made a_kind a_number a_elsePlace a_jumpPlace a_bodySize a_stack (fa_val (fa_res kd cc cx cy sz a_number f a b)) (fa_td (fa_res kd cc cx cy sz a_number f a b)) (fa_res kd cc cx cy sz a_number f a b).2.1 (fa_res kd cc cx cy sz a_number f a b).2.2) : wpX_valueOfRun post (f_stacked, f_made, f_open, f_valueCount, f_enteredInAll, f_tired, a_kind, a_number, a_elsePlace, a_jumpPlace, a_bodySize, a_stack, a_openFunction, a_openFirst, a_openSecond, a_openPlace, a_values, a_entered) (nI f) a b := by
  refine xq_run hK hE hJ hz hW f hf a b (fun v n c e => ?_) (fun n c e => ?_)
  · have e' : fa_res kd cc cx cy sz a_number f a b = (some v, n, c) := e
    rw [e'] at H; exact H
  · have e' : fa_res kd cc cx cy sz a_number f a b = (none, n, c) := e
    rw [e'] at H; exact H
end
section
variable {f_made f_depth f_waiting f_held f_called f_tired : Int32} {a_kinds a_parts a_numbers a_roots a_stack a_waits a_values a_firsts a_seconds a_counts : Nat → Int32} {num : Nat → Int32} {kd el ju st cc cx cy : Nat → Nat → Nat} {sz : Nat → Nat}
theorem yq_run {post : Int32 → SY → Prop} (hR : ∀ g, g < 4 → ∀ p, p < sz g → yq_R a_kinds a_parts a_numbers num g (kd g) (cc g) (cx g) (cy g) p) (hz : ∀ g, g < 4 → sz g ≤ 14 ∧ a_roots g = nI (14 * g + (sz g - 1))) (hW : ∀ g, g < 4 → fa_Bd (kd g) (st g) (el g) (ju g) (cc g) (cx g) (cy g) (sz g)) (f : Nat) (hf : f < 4) (a b : Int32)
    (HS : ∀ (v : Int32) (n : Nat) (c : Nat → Int32), fa_res kd cc cx cy sz num f a b = (some v, n, c) → yq_E post f_made f_depth a_kinds a_parts a_numbers a_roots a_stack v 0 n c)
    (HN : ∀ (n : Nat) (c : Nat → Int32), fa_res kd cc cx cy sz num f a b = (none, n, c) → yq_E post f_made f_depth a_kinds a_parts a_numbers a_roots a_stack 0 1 n c) : wpY_work post (f_made, f_depth, f_waiting, f_held, f_called, f_tired, a_kinds, a_parts, a_numbers, a_roots, a_stack, a_waits, a_values, a_firsts, a_seconds, a_counts) (nI f) a b := by
  refine ⟨5, ?_⟩
  refine br_f (by decide) ⟨vp_in_iff.mpr (by decide), nm_r (e' := upd a_counts 0 0) rfl (nm_r (e' := 1) rfl ?_)⟩
  refine br_f (by decide) ⟨vp_in_iff.mpr (by decide), nm_r (e' := upd (upd a_counts 0 0) 1 0) rfl (nm_r (e' := 2) rfl ?_)⟩
  refine br_f (by decide) ⟨vp_in_iff.mpr (by decide), nm_r (e' := upd (upd (upd a_counts 0 0) 1 0) 2 0) rfl (nm_r (e' := 3) rfl ?_)⟩
  refine br_f (by decide) ⟨vp_in_iff.mpr (by decide), nm_r (e' := fa_z4 a_counts) rfl (nm_r (e' := 4) rfl ?_)⟩
  refine br_t (by decide) ?_
  obtain ⟨w0, w14, _⟩ := hW f hf
  refine yq_call 0 f 0 (14 * f + (sz f - 1)) rfl hf (by decide) (by decide) (hz f hf).2 ?_
  have h := fa_ysim kd (fun g p => num (14 * g + p)) cc cx cy sz st el ju (yq_M post f_made f_depth a_kinds a_parts a_numbers a_roots a_stack) (fun n c => yq_E post f_made f_depth a_kinds a_parts a_numbers a_roots a_stack 0 1 n c) hW
    (yq_C hR hz) (yq_F hR hz) (yq_S hR hz) (yq_T hR hz) (yq_H hR hz) (yq_U hR hz) (yq_O hR hz) (yq_K hR hz) (yq_X hR hz) (yq_I hR hz)
    901 f (sz f - 1) 0 a b 1 (upd (fun _ => 0) 0 a) (upd (fun _ => 0) 0 b) (upd (fun _ => 0) f 1) [] [] 0 0 (by omega) (by omega) hf (by omega) (by omega) pk_us pk_us (Nat.zero_le _) (Nat.zero_le _) (by omega) (by omega)
    (fun v n' A' B' c' e hn hn' hAB => by
      intro a_waits a_values a_firsts a_seconds a_counts _ hV _ hc
      have v0 : a_values 0 = v := hV.1
      exact ⟨1, yq_exit (r := v) (c := c') (br_t rfl (by rw [v0]; exact HS v n' c' e _ _ _ _ _ _ _ hc)) (Or.inl (by decide))⟩) HN
  refine h _ _ _ _ _ ⟨pk_us, True.intro⟩ True.intro (fun j hj => ?_) (fun g hg => ?_)
  · have e : j = 0 := by omega
    subst e
    rw [pk_us, pk_us, pk_us, pk_us]; exact ⟨rfl, rfl⟩
  · by_cases e : g = f
    · rw [e, pk_us, pk_us, fa_z4e _ f hf]; rfl
    · rw [pk_un e, pk_un e, fa_z4e _ g hg]
theorem yq_work {post : Int32 → SY → Prop} (hR : ∀ g, g < 4 → ∀ p, p < sz g → yq_R a_kinds a_parts a_numbers num g (kd g) (cc g) (cx g) (cy g) p) (hz : ∀ g, g < 4 → sz g ≤ 14 ∧ a_roots g = nI (14 * g + (sz g - 1))) (hW : ∀ g, g < 4 → fa_Bd (kd g) (st g) (el g) (ju g) (cc g) (cx g) (cy g) (sz g)) (f : Nat) (hf : f < 4) (a b : Int32)
    (H : yq_E post f_made f_depth a_kinds a_parts a_numbers a_roots a_stack (fa_val (fa_res kd cc cx cy sz num f a b)) (fa_td (fa_res kd cc cx cy sz num f a b)) (fa_res kd cc cx cy sz num f a b).2.1 (fa_res kd cc cx cy sz num f a b).2.2) : wpY_work post (f_made, f_depth, f_waiting, f_held, f_called, f_tired, a_kinds, a_parts, a_numbers, a_roots, a_stack, a_waits, a_values, a_firsts, a_seconds, a_counts) (nI f) a b := by
  refine yq_run hR hz hW f hf a b (fun v n c e => ?_) (fun n c e => ?_)
  · rw [e] at H; exact H
  · rw [e] at H; exact H
theorem yq_isF {post : Int32 → Prop} {x : Int32} (h0 : (x < 0 ∨ nI 4 ≤ x) → post 0) (h1 : ∀ f, f < 4 → x = nI f → post 1) : wpY_isFunction post (f_made, f_depth, f_waiting, f_held, f_called, f_tired, a_kinds, a_parts, a_numbers, a_roots, a_stack, a_waits, a_values, a_firsts, a_seconds, a_counts) x := by
  rcases pk_ix x (n := 4) (by decide) with h | h | ⟨j, hj, h⟩
  · exact br_t h (h0 (Or.inl h))
  · exact br_c (fun z => h0 (Or.inl z)) (fun _ => br_t (Int32.lt_of_lt_of_le (by decide) h) (h0 (Or.inr h)))
  · subst h
    exact br_f (nI_pos (by omega)) (br_f (nI_nlt (a := 3) (by omega) (by decide)) (h1 j hj rfl))
theorem yq_noteE {post : Int32 → SY → Prop} {x tk y x5 : Int32} {N : Nat} (w m : Nat) (hw : w < 14) (hm : m < 14) (h5 : tk ≤ x5)
    (H : post (nI (w + 1)) (nI (m + 1), nI (w + 1), f_waiting, f_held, f_called, f_tired, upd a_kinds (56 + m) x, a_parts, upd a_numbers (56 + m) y, a_roots, upd a_stack w (nI (56 + m)), a_waits, a_values, a_firsts, a_seconds, a_counts)) :
    wY_note_22 post x tk y (nI (56 + m)) (nI m) (nI w) f_waiting f_held f_called f_tired (N + 1) x5 a_kinds a_parts a_numbers a_roots a_stack a_waits a_values a_firsts a_seconds a_counts := by
  have cm : (nI (56 + m)).toNatClampNeg = 56 + m := nI_clamp (by omega)
  have vm : vp_in (nI (56 + m)) 70 := vp_in_nI (by omega) (by decide)
  refine br_t h5 ⟨vm, nm_r (e' := upd a_kinds (56 + m) x) (by rw [cm]) ⟨vm, nm_r (e' := upd a_numbers (56 + m) y) (by rw [cm]) ?_⟩⟩
  refine ⟨vp_in_nI hw (by decide), nm_r (e' := upd a_stack w (nI (56 + m))) (by rw [nI_clamp (by omega)]) ?_⟩
  exact nm_r (nI_1 m) (nm_r (nI_1 w) H)
theorem yq_note0 {post : Int32 → SY → Prop} {x y : Int32} (w m : Nat) (hw : w < 14) (hm : m < 14)
    (H : post (nI (w + 1)) (nI (m + 1), nI (w + 1), f_waiting, f_held, f_called, f_tired, upd a_kinds (56 + m) x, a_parts, upd a_numbers (56 + m) y, a_roots, upd a_stack w (nI (56 + m)), a_waits, a_values, a_firsts, a_seconds, a_counts)) :
    wpY_note post (nI m, nI w, f_waiting, f_held, f_called, f_tired, a_kinds, a_parts, a_numbers, a_roots, a_stack, a_waits, a_values, a_firsts, a_seconds, a_counts) x 0 y := by
  refine nm_r (e' := nI w) (pk_sub (b := 0) (Nat.zero_le _)) (nm_r (e' := nI (56 + m)) (nI_add 56 m) ⟨1, ?_⟩)
  exact yq_noteE w m hw hm (by decide) H
theorem yq_noteS {post : Int32 → SY → Prop} {x y tk : Int32} {N : Nat} (w m i : Nat) (hw : w + i < 14) (hm : m < 14) (hi : i < 3) (h5 : ¬ tk ≤ nI i)
    (H : wY_note_22 post x tk y (nI (56 + m)) (nI m) (nI w) f_waiting f_held f_called f_tired N (nI (i + 1)) a_kinds (upd a_parts (3 * (56 + m) + i) (a_stack (w + i))) a_numbers a_roots a_stack a_waits a_values a_firsts a_seconds a_counts) :
    wY_note_22 post x tk y (nI (56 + m)) (nI m) (nI w) f_waiting f_held f_called f_tired (N + 1) (nI i) a_kinds a_parts a_numbers a_roots a_stack a_waits a_values a_firsts a_seconds a_counts := by
  have e1 : nI w + nI i = nI (w + i) := nI_add w i
  have e2 : (3 : Int32) * nI (56 + m) + nI i = nI (3 * (56 + m) + i) := by rw [show (3 : Int32) * nI (56 + m) = nI (3 * (56 + m)) from pk_mul 3 _, nI_add]
  refine br_f h5 ⟨by rw [e1]; exact vp_in_nI hw (by decide), by rw [e2]; exact vp_in_nI (by omega) (by decide), nm_r (e' := upd a_parts (3 * (56 + m) + i) (a_stack (w + i))) ?_ (nm_r (nI_1 i) H)⟩
  rw [e1, e2, nI_clamp (by omega), nI_clamp (by omega)]
theorem yq_note2 {post : Int32 → SY → Prop} {x y : Int32} (w m : Nat) (hw : w + 1 < 14) (hm : m < 14)
    (H : post (nI (w + 1)) (nI (m + 1), nI (w + 1), f_waiting, f_held, f_called, f_tired, upd a_kinds (56 + m) x, upd (upd a_parts (3 * (56 + m)) (a_stack w)) (3 * (56 + m) + 1) (a_stack (w + 1)), upd a_numbers (56 + m) y, a_roots, upd a_stack w (nI (56 + m)), a_waits, a_values, a_firsts, a_seconds, a_counts)) :
    wpY_note post (nI m, nI (w + 2), f_waiting, f_held, f_called, f_tired, a_kinds, a_parts, a_numbers, a_roots, a_stack, a_waits, a_values, a_firsts, a_seconds, a_counts) x 2 y := by
  refine nm_r (e' := nI w) (pk_sub (a := w + 2) (b := 2) (by omega)) (nm_r (e' := nI (56 + m)) (nI_add 56 m) ⟨3, ?_⟩)
  refine yq_noteS w m 0 (by omega) hm (by omega) (by decide) ?_
  refine yq_noteS w m 1 (by omega) hm (by omega) (by decide) ?_
  exact yq_noteE w m (by omega) hm (by decide) H
theorem yq_note3 {post : Int32 → SY → Prop} {x y : Int32} (w m : Nat) (hw : w + 2 < 14) (hm : m < 14)
    (H : post (nI (w + 1)) (nI (m + 1), nI (w + 1), f_waiting, f_held, f_called, f_tired, upd a_kinds (56 + m) x, upd (upd (upd a_parts (3 * (56 + m)) (a_stack w)) (3 * (56 + m) + 1) (a_stack (w + 1))) (3 * (56 + m) + 2) (a_stack (w + 2)), upd a_numbers (56 + m) y, a_roots, upd a_stack w (nI (56 + m)), a_waits, a_values, a_firsts, a_seconds, a_counts)) :
    wpY_note post (nI m, nI (w + 3), f_waiting, f_held, f_called, f_tired, a_kinds, a_parts, a_numbers, a_roots, a_stack, a_waits, a_values, a_firsts, a_seconds, a_counts) x 3 y := by
  refine nm_r (e' := nI w) (pk_sub (a := w + 3) (b := 3) (by omega)) (nm_r (e' := nI (56 + m)) (nI_add 56 m) ⟨4, ?_⟩)
  refine yq_noteS w m 0 (by omega) hm (by omega) (by decide) ?_
  refine yq_noteS w m 1 (by omega) hm (by omega) (by decide) ?_
  refine yq_noteS w m 2 (by omega) hm (by omega) (by decide) ?_
  exact yq_noteE w m (by omega) hm (by decide) H
/-- the reference's copy of the parts, c of them -/
def fa_cq (f c : Nat) (sh : Int32) (P : Nat → Int32) : Nat → Int32 := fun q => if 42 * f ≤ q ∧ q < 42 * f + c then P (168 + (q - 42 * f)) + sh else P q
theorem fa_cq0 (f : Nat) (sh : Int32) (P : Nat → Int32) : fa_cq f 0 sh P = P := by
  funext q
  exact if_neg (by omega)
theorem fa_cqS (f c : Nat) (sh : Int32) (P : Nat → Int32) (hf : f < 4) (hc : c < 42) : upd (fa_cq f c sh P) (42 * f + c) (fa_cq f c sh P (168 + c) + sh) = fa_cq f (c + 1) sh P := by
  have e : fa_cq f c sh P (168 + c) = P (168 + c) := if_neg (by omega)
  rw [e]
  funext q
  unfold upd fa_cq
  by_cases h : q = 42 * f + c
  · rw [if_pos h, if_pos (by omega)]
    congr 2; omega
  · rw [if_neg h]
    by_cases h2 : 42 * f ≤ q ∧ q < 42 * f + c
    · rw [if_pos h2, if_pos (by omega)]
    · rw [if_neg h2, if_neg (by omega)]
theorem yq_sh (f i : Nat) : nI (56 + i) + (14 * nI f - 56) = nI (14 * f + i) := by
  have e1 : nI (56 + i) = 56 + nI i := (nI_add 56 i).symm
  have e2 : nI (14 * f + i) = 14 * nI f + nI i := by rw [← nI_add, ← pk_mul]; rfl
  rw [e1, e2]
  grind
theorem yq_dS {post : Int32 → SY → Prop} {J : Int32 → (Nat → Int32) → (Nat → Int32) → (Nat → Int32) → (Nat → Int32) → (Nat → Int32) → (Nat → Int32) → (Nat → Int32) → (Nat → Int32) → (Nat → Int32) → (Nat → Int32) → Prop} {N : Nat} {P : Nat → Int32} (f i j : Nat) (hf : f < 4) (hi : i < 14) (hj : j < 3)
    (H : wY_define_75 post J (nI f) (14 * nI f - 56) (nI (56 + i)) f_made f_depth f_waiting f_held f_called f_tired N (nI (j + 1)) a_kinds (fa_cq f (3 * i + j + 1) (14 * nI f - 56) P) a_numbers a_roots a_stack a_waits a_values a_firsts a_seconds a_counts) :
    wY_define_75 post J (nI f) (14 * nI f - 56) (nI (56 + i)) f_made f_depth f_waiting f_held f_called f_tired (N + 1) (nI j) a_kinds (fa_cq f (3 * i + j) (14 * nI f - 56) P) a_numbers a_roots a_stack a_waits a_values a_firsts a_seconds a_counts := by
  have e1 : (3 : Int32) * nI (56 + i) + nI j = nI (168 + (3 * i + j)) := by
    rw [show (3 : Int32) * nI (56 + i) = nI (3 * (56 + i)) from pk_mul 3 _, nI_add]
    exact congrArg nI (by omega)
  have e2 : (3 : Int32) * (nI (56 + i) + (14 * nI f - 56)) + nI j = nI (42 * f + (3 * i + j)) := by
    rw [yq_sh, show (3 : Int32) * nI (14 * f + i) = nI (3 * (14 * f + i)) from pk_mul 3 _, nI_add]
    exact congrArg nI (by omega)
  refine br_f (nI_ge (b := 3) hj (by decide)) ⟨by rw [e1]; exact vp_in_nI (by omega) (by decide), by rw [e2]; exact vp_in_nI (by omega) (by decide), nm_r (e' := fa_cq f (3 * i + j + 1) (14 * nI f - 56) P) ?_ (nm_r (nI_1 j) H)⟩
  rw [e1, e2, nI_clamp (by omega), nI_clamp (by omega)]
  exact fa_cqS f (3 * i + j) _ P hf (by omega)
theorem yq_dL {post : Int32 → SY → Prop} (f m : Nat) (hf : f < 4) (hm : m ≤ 14) (s0 : Nat) (hs : a_stack 0 = nI (56 + s0))
    (H : post (nI m) (0, 0, f_waiting, f_held, f_called, f_tired, fa_cp f m a_kinds, fa_cq f (3 * m) (14 * nI f - 56) a_parts, fa_cp f m a_numbers, upd a_roots f (nI (14 * f + s0)), a_stack, a_waits, a_values, a_firsts, a_seconds, a_counts)) :
    ∀ d i : Nat, i + d = m → wY_define_33 post (nI f) (14 * nI f - 56) (nI m) f_depth f_waiting f_held f_called f_tired (d + 1) (nI (56 + i)) (fa_cp f i a_kinds) (fa_cq f (3 * i) (14 * nI f - 56) a_parts) (fa_cp f i a_numbers) a_roots a_stack a_waits a_values a_firsts a_seconds a_counts := by
  intro d
  induction d with
  | zero =>
    intro i hi
    have e : i = m := by omega
    subst e
    refine br_t (by rw [show (56 : Int32) + nI i = nI (56 + i) from nI_add 56 i]; exact Int32.le_refl _) ?_
    refine ⟨vp_in_nI hf (by decide), nm_r (e' := upd a_roots f (nI (14 * f + s0))) (by rw [nI_clamp (by omega), hs, yq_sh]) ?_⟩
    exact H
  | succ d ih =>
    intro i hi
    have v1 : vp_in (nI (56 + i)) 70 := vp_in_nI (by omega) (by decide)
    have v2 : vp_in (nI (56 + i) + (14 * nI f - 56)) 70 := by rw [yq_sh]; exact vp_in_nI (by omega) (by decide)
    have c1 : (nI (56 + i)).toNatClampNeg = 56 + i := nI_clamp (by omega)
    have c2 : (nI (56 + i) + (14 * nI f - 56)).toNatClampNeg = 14 * f + i := by rw [yq_sh]; exact nI_clamp (by omega)
    have g1 : upd (fa_cp f i a_kinds) (nI (56 + i) + (14 * nI f - 56)).toNatClampNeg (fa_cp f i a_kinds (nI (56 + i)).toNatClampNeg) = fa_cp f (i + 1) a_kinds := by
      rw [c1, c2, fa_cpD f i i a_kinds hf (by omega)]; exact fa_cpS f i a_kinds hf (by omega)
    have g2 : upd (fa_cp f i a_numbers) (nI (56 + i) + (14 * nI f - 56)).toNatClampNeg (fa_cp f i a_numbers (nI (56 + i)).toNatClampNeg) = fa_cp f (i + 1) a_numbers := by
      rw [c1, c2, fa_cpD f i i a_numbers hf (by omega)]; exact fa_cpS f i a_numbers hf (by omega)
    refine br_f (by rw [show (56 : Int32) + nI m = nI (56 + m) from nI_add 56 m]; exact nI_ge (by omega) (by omega)) ?_
    refine ⟨v1, v2, nm_r g1 ⟨v1, v2, nm_r g2 ⟨4, ?_⟩⟩⟩
    refine yq_dS f i 0 hf (by omega) (by omega) ?_
    refine yq_dS f i 1 hf (by omega) (by omega) ?_
    refine yq_dS f i 2 hf (by omega) (by omega) ?_
    refine br_t (by decide) (nm_r (nI_1 (56 + i)) ?_)
    exact ih (i + 1) (by omega)
end
end
section
/-- row f of a table of rows replaced -/
def fa_r (r : Nat → Nat → Nat) (f : Nat) (row : Nat → Nat) : Nat → Nat → Nat := fun g => if g = f then row else r g
theorem fa_rs {r : Nat → Nat → Nat} {f : Nat} {row : Nat → Nat} : fa_r r f row f = row := if_pos rfl
theorem fa_rn {r : Nat → Nat → Nat} {f g : Nat} {row : Nat → Nat} (h : g ≠ f) : fa_r r f row g = r g := if_neg h
theorem fa_Rput {A : Nat → Int32} {r : Nat → Nat → Nat} {m v : Nat} (h : xq_R A r) (hm : m < 14) (hv : v < 99) : xq_R (upd A (56 + m) (nI v)) (fa_r r 4 (fa_u (r 4) m v)) := by
  intro g p hg hp
  by_cases e : g = 4
  · subst e
    rw [fa_rs]
    by_cases e2 : p = m
    · subst e2
      rw [fa_us, show 14 * 4 + p = 56 + p from rfl, pk_us]
      exact ⟨rfl, hv⟩
    · rw [fa_un e2, pk_un (by omega)]
      exact h 4 p hg hp
  · rw [fa_rn e, pk_un (by omega)]
    exact h g p hg hp
theorem fa_Rcp {A : Nat → Int32} {r : Nat → Nat → Nat} {f : Nat} (h : xq_R A r) (hf : f < 4) : xq_R (fa_cp f 14 A) (fa_r r f (r 4)) := by
  intro g p hg hp
  by_cases e : g = f
  · subst e
    rw [fa_rs]
    have e3 : fa_cp g 14 A (14 * g + p) = A (14 * 4 + p) := by
      unfold fa_cp
      rw [if_pos (by omega)]
      exact congrArg A (by omega)
    rw [e3]
    exact h 4 p (by omega) hp
  · rw [fa_rn e]
    have e3 : fa_cp f 14 A (14 * g + p) = A (14 * g + p) := if_neg (by omega)
    rw [e3]
    exact h g p hg hp
/-- what ties the two states -/
def fa_C (kd st el ju cc cx cy : Nat → Nat → Nat) (sk sz : Nat → Nat) (w m : Nat) (a_kind a_number a_elsePlace a_jumpPlace a_bodySize a_stack : Nat → Int32) (a_kinds a_parts a_numbers a_roots b_stack : Nat → Int32) : Prop :=
  xq_R a_kind kd ∧ xq_R a_elsePlace el ∧ xq_R a_jumpPlace ju ∧ (∀ g, g < 4 → a_bodySize g = nI (sz g) ∧ sz g ≤ 14) ∧
  (∀ i, i < w → a_stack i = nI (sk i) ∧ b_stack i = nI (56 + sk i)) ∧
  (∀ g, g < 4 → fa_Bd (kd g) (st g) (el g) (ju g) (cc g) (cx g) (cy g) (sz g)) ∧
  fa_D (kd 4) (st 4) (el 4) (ju 4) (cc 4) (cx 4) (cy 4) sk w m ∧
  (∀ g, g < 4 → ∀ p, p < sz g → yq_R a_kinds a_parts a_numbers a_number g (kd g) (cc g) (cx g) (cy g) p) ∧
  (∀ g, g < 4 → sz g ≤ 14 ∧ a_roots g = nI (14 * g + (sz g - 1))) ∧
  (∀ p, p < m → yq_R a_kinds a_parts a_numbers a_number 4 (kd 4) (cc 4) (cx 4) (cy 4) p)
def i_Rel (k : Nat) (u : SX) (v : SY) : Prop :=
  ∃ (kd st el ju cc cx cy : Nat → Nat → Nat) (sk sz : Nat → Nat) (w m : Nat) (f_open f_valueCount f_enteredInAll f_tired : Int32) (a_kind a_number a_elsePlace a_jumpPlace a_bodySize a_stack a_openFunction a_openFirst a_openSecond a_openPlace a_values a_entered : Nat → Int32)
    (f_waiting f_held f_called g_tired : Int32) (a_kinds a_parts a_numbers a_roots b_stack a_waits b_values a_firsts a_seconds a_counts : Nat → Int32),
    u = (nI w, nI m, f_open, f_valueCount, f_enteredInAll, f_tired, a_kind, a_number, a_elsePlace, a_jumpPlace, a_bodySize, a_stack, a_openFunction, a_openFirst, a_openSecond, a_openPlace, a_values, a_entered) ∧ v = (nI m, nI w, f_waiting, f_held, f_called, g_tired, a_kinds, a_parts, a_numbers, a_roots, b_stack, a_waits, b_values, a_firsts, a_seconds, a_counts) ∧ fa_C kd st el ju cc cx cy sk sz w m a_kind a_number a_elsePlace a_jumpPlace a_bodySize a_stack a_kinds a_parts a_numbers a_roots b_stack
theorem i_up {k : Nat} {u : SX} {v : SY} (h : i_Rel k u v) : i_Rel (k + 5) u v := h
theorem yq_Rc {K P N num K' P' N' num' : Nat → Int32} {g : Nat} {k cc cx cy k' cc' cx' cy' : Nat → Nat} {p : Nat} (h : yq_R K P N num g k cc cx cy p)
    (e1 : K' (14 * g + p) = K (14 * g + p)) (e2 : N' (14 * g + p) = N (14 * g + p)) (e3 : num' (14 * g + p) = num (14 * g + p))
    (e4 : P' (3 * (14 * g + p)) = P (3 * (14 * g + p))) (e5 : P' (3 * (14 * g + p) + 1) = P (3 * (14 * g + p) + 1)) (e6 : P' (3 * (14 * g + p) + 2) = P (3 * (14 * g + p) + 2))
    (k1 : k' p = k p) (c1 : cc' p = cc p) (c2 : cx' p = cx p) (c3 : cy' p = cy p) : yq_R K' P' N' num' g k' cc' cx' cy' p := by
  unfold yq_R
  rw [e1, e2, e3, e4, e5, e6, k1, c1, c2, c3]
  exact h
section
variable {kd st el ju cc cx cy : Nat → Nat → Nat} {sk sz : Nat → Nat} {w m : Nat} {a_kind a_number a_elsePlace a_jumpPlace a_bodySize a_stack : Nat → Int32} {a_kinds a_parts a_numbers a_roots b_stack : Nat → Int32}
theorem fa_Cw (C : fa_C kd st el ju cc cx cy sk sz w m a_kind a_number a_elsePlace a_jumpPlace a_bodySize a_stack a_kinds a_parts a_numbers a_roots b_stack) : w ≤ m ∧ m ≤ 14 := by
  obtain ⟨h1, h2, h3, h4, h5, h6, h7, h8⟩ := C
  exact ⟨fa_Dw h7, h7.1⟩
theorem fa_C0 (C : fa_C kd st el ju cc cx cy sk sz w m a_kind a_number a_elsePlace a_jumpPlace a_bodySize a_stack a_kinds a_parts a_numbers a_roots b_stack) : fa_C kd st el ju cc cx cy sk sz 0 0 a_kind a_number a_elsePlace a_jumpPlace a_bodySize a_stack a_kinds a_parts a_numbers a_roots b_stack := by
  obtain ⟨h1, h2, h3, h4, h5, h6, h7, h8, h9, h10⟩ := C
  exact ⟨h1, h2, h3, h4, fun _ h => absurd h (Nat.not_lt_zero _), h6, fa_D0 _ _ _ _ _ _ _ _, h8, h9, fun _ h => absurd h (Nat.not_lt_zero _)⟩
/-- what every push shares: rows below four are as they were -/
theorem fa_Cpush {w' kv : Nat} {R1 R2 R5 R6 R7 : Nat → Nat} {el' ju' : Nat → Nat → Nat} {nx ny nk : Int32} {E J P : Nat → Int32} (C : fa_C kd st el ju cc cx cy sk sz w m a_kind a_number a_elsePlace a_jumpPlace a_bodySize a_stack a_kinds a_parts a_numbers a_roots b_stack) (hm : m < 14) (hw : w' ≤ w)
    (hkv : kv < 99) (hR1 : R1 = fa_u (kd 4) m kv) (hE : xq_R E el') (hJ : xq_R J ju') (hel : ∀ g, g < 4 → el' g = el g) (hju : ∀ g, g < 4 → ju' g = ju g)
    (hP : ∀ q, q < 168 + 3 * m → P q = a_parts q)
    (hcc : ∀ p, p < m → R5 p = cc 4 p) (hcx : ∀ p, p < m → R6 p = cx 4 p) (hcy : ∀ p, p < m → R7 p = cy 4 p)
    (hD : fa_D R1 R2 (el' 4) (ju' 4) R5 R6 R7 (fa_u sk w' m) (w' + 1) (m + 1))
    (hY : yq_R (upd a_kinds (56 + m) nk) P (upd a_numbers (56 + m) ny) (upd a_number (56 + m) nx) 4 R1 R5 R6 R7 m) :
    fa_C (fa_r kd 4 R1) (fa_r st 4 R2) el' ju' (fa_r cc 4 R5) (fa_r cx 4 R6) (fa_r cy 4 R7) (fa_u sk w' m) sz (w' + 1) (m + 1)
      (upd a_kind (56 + m) (nI kv)) (upd a_number (56 + m) nx) E J a_bodySize (upd a_stack w' (nI m)) (upd a_kinds (56 + m) nk) P (upd a_numbers (56 + m) ny) a_roots (upd b_stack w' (nI (56 + m))) := by
  obtain ⟨h1, h2, h3, h4, h5, h6, h7, h8, h9, h10⟩ := C
  refine ⟨by rw [hR1]; exact fa_Rput h1 hm hkv, hE, hJ, h4, ?_, ?_, ?_, ?_, h9, ?_⟩
  · intro i hi
    by_cases e : i = w'
    · subst e
      rw [pk_us, pk_us, fa_us]; exact ⟨rfl, rfl⟩
    · rw [pk_un e, pk_un e, fa_un e]
      exact h5 i (by omega)
  · intro g hg
    rw [fa_rn (by omega), fa_rn (by omega), hel g hg, hju g hg, fa_rn (by omega), fa_rn (by omega), fa_rn (by omega)]
    exact h6 g hg
  · rw [fa_rs, fa_rs, fa_rs, fa_rs, fa_rs]
    exact hD
  · intro g hg p hp
    have := (h4 g hg).2
    rw [fa_rn (by omega), fa_rn (by omega), fa_rn (by omega), fa_rn (by omega)]
    exact yq_Rc (h8 g hg p hp) (pk_un (by omega)) (pk_un (by omega)) (pk_un (by omega)) (hP _ (by omega)) (hP _ (by omega)) (hP _ (by omega)) rfl rfl rfl rfl
  · intro p hp
    rw [fa_rs, fa_rs, fa_rs, fa_rs]
    by_cases e : p = m
    · subst e; exact hY
    · have hp' : p < m := by omega
      exact yq_Rc (h10 p hp') (pk_un (by omega)) (pk_un (by omega)) (pk_un (by omega)) (hP _ (by omega)) (hP _ (by omega)) (hP _ (by omega)) (by rw [hR1]; exact fa_un e) (hcc p hp') (hcx p hp') (hcy p hp')
theorem fa_Cleaf {kv : Nat} {nx ny nk : Int32} (C : fa_C kd st el ju cc cx cy sk sz w m a_kind a_number a_elsePlace a_jumpPlace a_bodySize a_stack a_kinds a_parts a_numbers a_roots b_stack) (hm : m < 14) (h8 : 8 ≤ kv) (h10 : kv ≤ 10)
    (hY : (kv = 8 → nk = nI 9 ∧ ny = nx) ∧ (kv = 9 → nk = nI 10 ∧ ny = nI 0) ∧ (kv = 10 → nk = nI 10 ∧ ny = nI 1)) :
    fa_C (fa_r kd 4 (fa_u (kd 4) m kv)) (fa_r st 4 (fa_u (st 4) m m)) (fa_r el 4 (fa_u (el 4) m 0)) (fa_r ju 4 (fa_u (ju 4) m 0)) (fa_r cc 4 (fa_u (cc 4) m 0)) (fa_r cx 4 (fa_u (cx 4) m 0)) (fa_r cy 4 (fa_u (cy 4) m 0)) (fa_u sk w m) sz (w + 1) (m + 1)
      (upd a_kind (56 + m) (nI kv)) (upd a_number (56 + m) nx) (upd a_elsePlace (56 + m) 0) (upd a_jumpPlace (56 + m) 0) a_bodySize (upd a_stack w (nI m)) (upd a_kinds (56 + m) nk) a_parts (upd a_numbers (56 + m) ny) a_roots (upd b_stack w (nI (56 + m))) := by
  refine fa_Cpush C hm (Nat.le_refl w) (by omega) rfl (fa_Rput (v := 0) C.2.1 hm (by decide)) (fa_Rput (v := 0) C.2.2.1 hm (by decide)) (fun g hg => fa_rn (by omega)) (fun g hg => fa_rn (by omega)) (fun _ _ => rfl)
    (fun p hp => fa_un (by omega)) (fun p hp => fa_un (by omega)) (fun p hp => fa_un (by omega)) ?_ ?_
  · rw [fa_rs, fa_rs]
    exact fa_Dleaf C.2.2.2.2.2.2.1 hm h8 h10 0 0 0
  · unfold yq_R
    rw [fa_us, show 14 * 4 + m = 56 + m from rfl, pk_us, pk_us, pk_us]
    exact ⟨hY.1, hY.2.1, hY.2.2, fun h => by omega, fun h => by omega⟩
theorem fa_Ctwo {kv : Nat} (C : fa_C kd st el ju cc cx cy sk sz (w + 2) m a_kind a_number a_elsePlace a_jumpPlace a_bodySize a_stack a_kinds a_parts a_numbers a_roots b_stack) (hm : m < 14) (h7 : kv ≤ 7) :
    fa_C (fa_r kd 4 (fa_u (kd 4) m kv)) (fa_r st 4 (fa_u (st 4) m (st 4 (sk w)))) (fa_r el 4 (fa_u (el 4) m 0)) (fa_r ju 4 (fa_u (ju 4) m 0)) (fa_r cc 4 (fa_u (cc 4) m 0)) (fa_r cx 4 (fa_u (cx 4) m (sk w))) (fa_r cy 4 (fa_u (cy 4) m (sk (w + 1)))) (fa_u sk w m) sz (w + 1) (m + 1)
      (upd a_kind (56 + m) (nI kv)) (upd a_number (56 + m) 0) (upd a_elsePlace (56 + m) 0) (upd a_jumpPlace (56 + m) 0) a_bodySize (upd a_stack w (nI m)) (upd a_kinds (56 + m) (nI kv)) (upd (upd a_parts (3 * (56 + m)) (b_stack w)) (3 * (56 + m) + 1) (b_stack (w + 1))) (upd a_numbers (56 + m) 0) a_roots (upd b_stack w (nI (56 + m))) := by
  have s0 := (C.2.2.2.2.1 w (by omega)).2
  have s1 := (C.2.2.2.2.1 (w + 1) (by omega)).2
  refine fa_Cpush C hm (by omega) (by omega) rfl (fa_Rput (v := 0) C.2.1 hm (by decide)) (fa_Rput (v := 0) C.2.2.1 hm (by decide)) (fun g hg => fa_rn (by omega)) (fun g hg => fa_rn (by omega)) (fun q hq => (pk_un (by omega)).trans (pk_un (by omega)))
    (fun p hp => fa_un (by omega)) (fun p hp => fa_un (by omega)) (fun p hp => fa_un (by omega)) ?_ ?_
  · rw [fa_rs, fa_rs]
    exact fa_Dtwo C.2.2.2.2.2.2.1 hm h7
  · unfold yq_R
    rw [fa_us, fa_us, fa_us, show 14 * 4 + m = 56 + m from rfl, pk_us, pk_us, pk_us, pk_us, pk_un (show 3 * (56 + m) ≠ 3 * (56 + m) + 1 by omega), pk_us, s0, s1]
    exact ⟨fun h => by omega, fun h => by omega, fun h => by omega, fun _ => ⟨rfl, rfl, rfl⟩, fun h => by omega⟩
theorem fa_Cchoose (C : fa_C kd st el ju cc cx cy sk sz (w + 3) m a_kind a_number a_elsePlace a_jumpPlace a_bodySize a_stack a_kinds a_parts a_numbers a_roots b_stack) (hm : m < 14) :
    fa_C (fa_r kd 4 (fa_u (kd 4) m 11)) (fa_r st 4 (fa_u (st 4) m (st 4 (sk w)))) (fa_r (fa_r el 4 (fa_u (el 4) (sk w) (sk (w + 1) + 1))) 4 (fa_u (fa_r el 4 (fa_u (el 4) (sk w) (sk (w + 1) + 1)) 4) m 0)) (fa_r (fa_r ju 4 (fa_u (ju 4) (sk (w + 1)) m)) 4 (fa_u (fa_r ju 4 (fa_u (ju 4) (sk (w + 1)) m) 4) m 0)) (fa_r cc 4 (fa_u (cc 4) m (sk w))) (fa_r cx 4 (fa_u (cx 4) m (sk (w + 1)))) (fa_r cy 4 (fa_u (cy 4) m (sk (w + 2)))) (fa_u sk w m) sz (w + 1) (m + 1)
      (upd a_kind (56 + m) (nI 11)) (upd a_number (56 + m) 0) (upd (upd a_elsePlace (56 + sk w) (nI (sk (w + 1) + 1))) (56 + m) 0) (upd (upd a_jumpPlace (56 + sk (w + 1)) (nI m)) (56 + m) 0) a_bodySize (upd a_stack w (nI m)) (upd a_kinds (56 + m) (nI 8)) (upd (upd (upd a_parts (3 * (56 + m)) (b_stack w)) (3 * (56 + m) + 1) (b_stack (w + 1))) (3 * (56 + m) + 2) (b_stack (w + 2))) (upd a_numbers (56 + m) 0) a_roots (upd b_stack w (nI (56 + m))) := by
  have s0 := (C.2.2.2.2.1 w (by omega)).2
  have s1 := (C.2.2.2.2.1 (w + 1) (by omega)).2
  have s2 := (C.2.2.2.2.1 (w + 2) (by omega)).2
  have D := C.2.2.2.2.2.2.1
  have l0 := (D.2.2.1 w (by omega)).2.2.1
  have l1 := (D.2.2.1 (w + 1) (by omega)).2.2.1
  refine fa_Cpush C hm (by omega) (by omega) rfl (fa_Rput (v := 0) (fa_Rput C.2.1 (by omega) (by omega)) hm (by decide)) (fa_Rput (v := 0) (fa_Rput C.2.2.1 (by omega) (by omega)) hm (by decide)) (fun g hg => (fa_rn (by omega)).trans (fa_rn (by omega))) (fun g hg => (fa_rn (by omega)).trans (fa_rn (by omega))) (fun q hq => (pk_un (by omega)).trans ((pk_un (by omega)).trans (pk_un (by omega))))
    (fun p hp => fa_un (by omega)) (fun p hp => fa_un (by omega)) (fun p hp => fa_un (by omega)) ?_ ?_
  · rw [fa_rs, fa_rs, fa_rs, fa_rs]
    exact fa_Dchoose D hm
  · unfold yq_R
    rw [fa_us, fa_us, fa_us, fa_us, show 14 * 4 + m = 56 + m from rfl, pk_us, pk_us, pk_us, pk_us, pk_un (show 3 * (56 + m) ≠ 3 * (56 + m) + 2 by omega), pk_un (show 3 * (56 + m) ≠ 3 * (56 + m) + 1 by omega), pk_un (show 3 * (56 + m) + 1 ≠ 3 * (56 + m) + 2 by omega), pk_us, pk_us, s0, s1, s2]
    exact ⟨fun h => by omega, fun h => by omega, fun h => by omega, fun h => by omega, fun _ => ⟨rfl, rfl, rfl, rfl⟩⟩
theorem fa_Cdef {f : Nat} (C : fa_C kd st el ju cc cx cy sk sz 1 m a_kind a_number a_elsePlace a_jumpPlace a_bodySize a_stack a_kinds a_parts a_numbers a_roots b_stack) (hf : f < 4) :
    fa_C (fa_r kd f (kd 4)) (fa_r st f (st 4)) (fa_r el f (el 4)) (fa_r ju f (ju 4)) (fa_r cc f (cc 4)) (fa_r cx f (cx 4)) (fa_r cy f (cy 4)) sk (fa_u sz f m) 0 0
      (fa_cp f 14 a_kind) (fa_cp f 14 a_number) (fa_cp f 14 a_elsePlace) (fa_cp f 14 a_jumpPlace) (upd a_bodySize f (nI m)) a_stack (fa_cp f m a_kinds) (fa_cq f (3 * m) (14 * nI f - 56) a_parts) (fa_cp f m a_numbers) (upd a_roots f (nI (14 * f + sk 0))) b_stack := by
  obtain ⟨h1, h2, h3, h4, h5, h6, h7, h8, h9, h10⟩ := C
  have hB := fa_Dbody h7
  have hm14 : m ≤ 14 := h7.1
  have em : sk 0 + 1 = m := h7.2.1
  refine ⟨fa_Rcp h1 hf, fa_Rcp h2 hf, fa_Rcp h3 hf, ?_, fun _ h => absurd h (Nat.not_lt_zero _), ?_, fa_D0 _ _ _ _ _ _ _ _, ?_, ?_, fun _ h => absurd h (Nat.not_lt_zero _)⟩
  · intro g hg
    by_cases e : g = f
    · subst e; rw [pk_us, fa_us]; exact ⟨rfl, hm14⟩
    · rw [pk_un e, fa_un e]; exact h4 g hg
  · intro g hg
    by_cases e : g = f
    · subst e; rw [fa_rs, fa_rs, fa_rs, fa_rs, fa_rs, fa_rs, fa_rs, fa_us]; exact hB
    · rw [fa_rn e, fa_rn e, fa_rn e, fa_rn e, fa_rn e, fa_rn e, fa_rn e, fa_un e]; exact h6 g hg
  · intro g hg p hp
    by_cases e : g = f
    · subst e
      rw [fa_us] at hp
      rw [fa_rs, fa_rs, fa_rs, fa_rs]
      obtain ⟨y1, y2, y3, y4, y5⟩ := h10 p hp
      have eK : fa_cp g m a_kinds (14 * g + p) = a_kinds (14 * 4 + p) := by
        unfold fa_cp; rw [if_pos (by omega)]; exact congrArg a_kinds (by omega)
      have eN : fa_cp g m a_numbers (14 * g + p) = a_numbers (14 * 4 + p) := by
        unfold fa_cp; rw [if_pos (by omega)]; exact congrArg a_numbers (by omega)
      have en : fa_cp g 14 a_number (14 * g + p) = a_number (14 * 4 + p) := by
        unfold fa_cp; rw [if_pos (by omega)]; exact congrArg a_number (by omega)
      have eP : ∀ j, j < 3 → ∀ ch, a_parts (3 * (14 * 4 + p) + j) = nI (14 * 4 + ch) → fa_cq g (3 * m) (14 * nI g - 56) a_parts (3 * (14 * g + p) + j) = nI (14 * g + ch) := by
        intro j hj ch hc
        unfold fa_cq
        rw [if_pos (by omega), show 168 + (3 * (14 * g + p) + j - 42 * g) = 3 * (14 * 4 + p) + j by omega, hc]
        exact yq_sh g ch
      unfold yq_R
      rw [eK, eN, en]
      refine ⟨y1, y2, y3, fun h => ?_, fun h => ?_⟩
      · obtain ⟨q1, q2, q3⟩ := y4 h
        exact ⟨q1, eP 0 (by omega) _ q2, eP 1 (by omega) _ q3⟩
      · obtain ⟨q1, q2, q3, q4⟩ := y5 h
        exact ⟨q1, eP 0 (by omega) _ q2, eP 1 (by omega) _ q3, eP 2 (by omega) _ q4⟩
    · rw [fa_un e] at hp
      have := (h4 g hg).2
      rw [fa_rn e, fa_rn e, fa_rn e, fa_rn e]
      exact yq_Rc (h8 g hg p hp) (if_neg (by omega)) (if_neg (by omega)) (if_neg (by omega)) (if_neg (by omega)) (if_neg (by omega)) (if_neg (by omega)) rfl rfl rfl rfl
  · intro g hg
    by_cases e : g = f
    · subst e
      rw [pk_us, fa_us]
      exact ⟨hm14, congrArg nI (by omega)⟩
    · rw [pk_un e, fa_un e]; exact h9 g hg
end
end
section
def fa_sum (h : Nat → Int32) : Nat → Int32
  | 0 => 0
  | i + 1 => fa_sum h i + h i
def fa_slv (r : Nat → Option Int32 × Nat × (Nat → Int32)) (v : Int32) : Nat → Nat → Int32
  | 0, _ => -1
  | d + 1, i => if fa_td (r i) = 0 then (if fa_val (r i) = v then nI i else fa_slv r v d (i + 1)) else fa_slv r v d (i + 1)
theorem fa_td01 (r : Option Int32 × Nat × (Nat → Int32)) : fa_td r = 0 ∨ fa_td r = 1 := by
  rcases r with ⟨_ | v, n, c⟩
  · exact Or.inr rfl
  · exact Or.inl rfl
theorem fa_nf {f : Nat} (hf : f < 4) : ¬ (nI f < 0 ∨ nI 4 ≤ nI f) := by
  rintro (h | h)
  · exact nI_pos (by omega) h
  · exact nI_ge hf (by decide) h
/-- whatever a run left behind -/
def xq_A (post : Int32 → SX → Prop) (f_stacked f_made : Int32) (a_kind a_number a_elsePlace a_jumpPlace a_bodySize a_stack : Nat → Int32) (r : Int32) : Prop :=
  ∀ (f_open f_valueCount f_enteredInAll f_tired : Int32) (a_openFunction a_openFirst a_openSecond a_openPlace a_values a_entered : Nat → Int32), post r (f_stacked, f_made, f_open, f_valueCount, f_enteredInAll, f_tired, a_kind, a_number, a_elsePlace, a_jumpPlace, a_bodySize, a_stack, a_openFunction, a_openFirst, a_openSecond, a_openPlace, a_values, a_entered)
def yq_A (post : Int32 → SY → Prop) (f_made f_depth : Int32) (a_kinds a_parts a_numbers a_roots a_stack : Nat → Int32) (r : Int32) : Prop :=
  ∀ (f_waiting f_held f_called f_tired : Int32) (a_waits a_values a_firsts a_seconds a_counts : Nat → Int32), post r (f_made, f_depth, f_waiting, f_held, f_called, f_tired, a_kinds, a_parts, a_numbers, a_roots, a_stack, a_waits, a_values, a_firsts, a_seconds, a_counts)
section
variable {f_stacked f_made f_open f_valueCount f_enteredInAll f_tired : Int32} {a_kind a_number a_elsePlace a_jumpPlace a_bodySize a_stack a_openFunction a_openFirst a_openSecond a_openPlace a_values a_entered : Nat → Int32} {post : Int32 → SX → Prop} {kd el ju st cc cx cy : Nat → Nat → Nat} {sz : Nat → Nat}
theorem xq_nrun {x a b : Int32} (hx : x < 0 ∨ nI 4 ≤ x) (H : post 0 (f_stacked, f_made, f_open, f_valueCount, f_enteredInAll, f_tired, a_kind, a_number, a_elsePlace, a_jumpPlace, a_bodySize, a_stack, a_openFunction, a_openFirst, a_openSecond, a_openPlace, a_values, a_entered)) : wpX_run post (f_stacked, f_made, f_open, f_valueCount, f_enteredInAll, f_tired, a_kind, a_number, a_elsePlace, a_jumpPlace, a_bodySize, a_stack, a_openFunction, a_openFirst, a_openSecond, a_openPlace, a_values, a_entered) x a b := by
  unfold wpX_run
  exact xq_isF (fun _ => br_t rfl H) (fun f hf e => absurd (e ▸ hx) (fa_nf hf))
theorem xq_nending {x a b : Int32} (hx : x < 0 ∨ nI 4 ≤ x) (H : post (-1) (f_stacked, f_made, f_open, f_valueCount, f_enteredInAll, f_tired, a_kind, a_number, a_elsePlace, a_jumpPlace, a_bodySize, a_stack, a_openFunction, a_openFirst, a_openSecond, a_openPlace, a_values, a_entered)) : wpX_ending post (f_stacked, f_made, f_open, f_valueCount, f_enteredInAll, f_tired, a_kind, a_number, a_elsePlace, a_jumpPlace, a_bodySize, a_stack, a_openFunction, a_openFirst, a_openSecond, a_openPlace, a_values, a_entered) x a b := by
  unfold wpX_ending
  exact xq_isF (fun _ => br_t rfl H) (fun f hf e => absurd (e ▸ hx) (fa_nf hf))
theorem xq_ncalls {x a b : Int32} (hx : x < 0 ∨ nI 4 ≤ x) (H : post (-1) (f_stacked, f_made, f_open, f_valueCount, f_enteredInAll, f_tired, a_kind, a_number, a_elsePlace, a_jumpPlace, a_bodySize, a_stack, a_openFunction, a_openFirst, a_openSecond, a_openPlace, a_values, a_entered)) : wpX_calls post (f_stacked, f_made, f_open, f_valueCount, f_enteredInAll, f_tired, a_kind, a_number, a_elsePlace, a_jumpPlace, a_bodySize, a_stack, a_openFunction, a_openFirst, a_openSecond, a_openPlace, a_values, a_entered) x a b := by
  unfold wpX_calls
  exact xq_isF (fun _ => br_t rfl H) (fun f hf e => absurd (e ▸ hx) (fa_nf hf))
theorem xq_mrun (hK : xq_R a_kind kd) (hE : xq_R a_elsePlace el) (hJ : xq_R a_jumpPlace ju) (hz : ∀ g, g < 4 → a_bodySize g = nI (sz g) ∧ sz g ≤ 14) (hW : ∀ g, g < 4 → fa_Bd (kd g) (st g) (el g) (ju g) (cc g) (cx g) (cy g) (sz g)) {a b : Int32} (f : Nat) (hf : f < 4) (H : xq_A post f_stacked f_made a_kind a_number a_elsePlace a_jumpPlace a_bodySize a_stack (fa_val (fa_res kd cc cx cy sz a_number f a b))) : wpX_run post (f_stacked, f_made, f_open, f_valueCount, f_enteredInAll, f_tired, a_kind, a_number, a_elsePlace, a_jumpPlace, a_bodySize, a_stack, a_openFunction, a_openFirst, a_openSecond, a_openPlace, a_values, a_entered) (nI f) a b := by
  unfold wpX_run
  refine xq_isF (fun h => absurd h (fa_nf hf)) (fun _ _ _ => br_f (by decide) ?_)
  refine xq_work hK hE hJ hz hW f hf a b ?_
  intro f_open' f_valueCount' oF oA oB oP V' E' hc
  exact H _ _ _ _ _ _ _ _ _ _
theorem xq_mending (hK : xq_R a_kind kd) (hE : xq_R a_elsePlace el) (hJ : xq_R a_jumpPlace ju) (hz : ∀ g, g < 4 → a_bodySize g = nI (sz g) ∧ sz g ≤ 14) (hW : ∀ g, g < 4 → fa_Bd (kd g) (st g) (el g) (ju g) (cc g) (cx g) (cy g) (sz g)) {a b : Int32} (f : Nat) (hf : f < 4) (H : xq_A post f_stacked f_made a_kind a_number a_elsePlace a_jumpPlace a_bodySize a_stack (fa_td (fa_res kd cc cx cy sz a_number f a b))) : wpX_ending post (f_stacked, f_made, f_open, f_valueCount, f_enteredInAll, f_tired, a_kind, a_number, a_elsePlace, a_jumpPlace, a_bodySize, a_stack, a_openFunction, a_openFirst, a_openSecond, a_openPlace, a_values, a_entered) (nI f) a b := by
  unfold wpX_ending
  refine xq_isF (fun h => absurd h (fa_nf hf)) (fun _ _ _ => br_f (by decide) ?_)
  refine xq_work hK hE hJ hz hW f hf a b ?_
  intro f_open' f_valueCount' oF oA oB oP V' E' hc
  rcases fa_td01 (fa_res kd cc cx cy sz a_number f a b) with e | e
  · rw [e] at H
    exact br_t e (H _ _ _ _ _ _ _ _ _ _)
  · rw [e] at H
    exact br_f (by rw [e]; decide) (H _ _ _ _ _ _ _ _ _ _)
theorem xq_mcalls (hK : xq_R a_kind kd) (hE : xq_R a_elsePlace el) (hJ : xq_R a_jumpPlace ju) (hz : ∀ g, g < 4 → a_bodySize g = nI (sz g) ∧ sz g ≤ 14) (hW : ∀ g, g < 4 → fa_Bd (kd g) (st g) (el g) (ju g) (cc g) (cx g) (cy g) (sz g)) {a b : Int32} (f : Nat) (hf : f < 4) (H : xq_A post f_stacked f_made a_kind a_number a_elsePlace a_jumpPlace a_bodySize a_stack (nI (fa_res kd cc cx cy sz a_number f a b).2.1)) : wpX_calls post (f_stacked, f_made, f_open, f_valueCount, f_enteredInAll, f_tired, a_kind, a_number, a_elsePlace, a_jumpPlace, a_bodySize, a_stack, a_openFunction, a_openFirst, a_openSecond, a_openPlace, a_values, a_entered) (nI f) a b := by
  unfold wpX_calls
  refine xq_isF (fun h => absurd h (fa_nf hf)) (fun _ _ _ => br_f (by decide) ?_)
  refine xq_work hK hE hJ hz hW f hf a b ?_
  intro f_open' f_valueCount' oF oA oB oP V' E' hc
  exact H _ _ _ _ _ _ _ _ _ _
theorem xq_ncallsOf {x a b y : Int32} (hx : (x < 0 ∨ nI 4 ≤ x) ∨ (y < 0 ∨ nI 4 ≤ y)) (H : post (-1) (f_stacked, f_made, f_open, f_valueCount, f_enteredInAll, f_tired, a_kind, a_number, a_elsePlace, a_jumpPlace, a_bodySize, a_stack, a_openFunction, a_openFirst, a_openSecond, a_openPlace, a_values, a_entered)) : wpX_callsOf post (f_stacked, f_made, f_open, f_valueCount, f_enteredInAll, f_tired, a_kind, a_number, a_elsePlace, a_jumpPlace, a_bodySize, a_stack, a_openFunction, a_openFirst, a_openSecond, a_openPlace, a_values, a_entered) x a b y := by
  unfold wpX_callsOf
  refine xq_isF (fun _ => br_t rfl H) (fun f hf e => br_f (by decide) ?_)
  refine xq_isF (fun _ => br_t rfl H) (fun g hg e2 => ?_)
  rcases hx with h | h
  · exact absurd (e ▸ h) (fa_nf hf)
  · exact absurd (e2 ▸ h) (fa_nf hg)
theorem xq_mcallsOf (hK : xq_R a_kind kd) (hE : xq_R a_elsePlace el) (hJ : xq_R a_jumpPlace ju) (hz : ∀ g, g < 4 → a_bodySize g = nI (sz g) ∧ sz g ≤ 14) (hW : ∀ g, g < 4 → fa_Bd (kd g) (st g) (el g) (ju g) (cc g) (cx g) (cy g) (sz g)) {a b : Int32} (f : Nat) (hf : f < 4) (g : Nat) (hg : g < 4) (H : xq_A post f_stacked f_made a_kind a_number a_elsePlace a_jumpPlace a_bodySize a_stack ((fa_res kd cc cx cy sz a_number f a b).2.2 g)) : wpX_callsOf post (f_stacked, f_made, f_open, f_valueCount, f_enteredInAll, f_tired, a_kind, a_number, a_elsePlace, a_jumpPlace, a_bodySize, a_stack, a_openFunction, a_openFirst, a_openSecond, a_openPlace, a_values, a_entered) (nI f) a b (nI g) := by
  unfold wpX_callsOf
  refine xq_isF (fun h => absurd h (fa_nf hf)) (fun _ _ _ => br_f (by decide) ?_)
  refine xq_isF (fun h => absurd h (fa_nf hg)) (fun _ _ _ => br_f (by decide) ?_)
  refine xq_work hK hE hJ hz hW f hf a b ?_
  intro f_open' f_valueCount' oF oA oB oP V' E' hc
  refine xq_at_entered g rfl hg (hc g hg) ?_
  exact H _ _ _ _ _ _ _ _ _ _
theorem xq_sumL (hK : xq_R a_kind kd) (hE : xq_R a_elsePlace el) (hJ : xq_R a_jumpPlace ju) (hz : ∀ g, g < 4 → a_bodySize g = nI (sz g) ∧ sz g ≤ 14) (hW : ∀ g, g < 4 → fa_Bd (kd g) (st g) (el g) (ju g) (cc g) (cx g) (cy g) (sz g)) {a b : Int32} (f n : Nat) (hf : f < 4) (hn : n ≤ 8) (H : xq_A post f_stacked f_made a_kind a_number a_elsePlace a_jumpPlace a_bodySize a_stack (fa_sum (fun j => fa_val (fa_res kd cc cx cy sz a_number f a (b + nI j))) n)) :
    ∀ d i : Nat, i + d = n → ∀ (f_open f_valueCount f_enteredInAll f_tired : Int32) (a_openFunction a_openFirst a_openSecond a_openPlace a_values a_entered : Nat → Int32), wX_sumOver_28 post (nI f) a b (nI n) (d + 1) (fa_sum (fun j => fa_val (fa_res kd cc cx cy sz a_number f a (b + nI j))) i) (nI i) f_stacked f_made f_open f_valueCount f_enteredInAll f_tired a_kind a_number a_elsePlace a_jumpPlace a_bodySize a_stack a_openFunction a_openFirst a_openSecond a_openPlace a_values a_entered := by
  intro d
  induction d with
  | zero =>
    intro i hi f_open f_valueCount f_enteredInAll f_tired a_openFunction a_openFirst a_openSecond a_openPlace a_values a_entered
    have e : i = n := by omega
    subst e
    exact br_t (Int32.le_refl _) (H _ _ _ _ _ _ _ _ _ _)
  | succ d ih =>
    intro i hi f_open f_valueCount f_enteredInAll f_tired a_openFunction a_openFirst a_openSecond a_openPlace a_values a_entered
    refine br_f (nI_ge (by omega) (by omega)) ?_
    refine xq_work hK hE hJ hz hW f hf a (b + nI i) ?_
    intro f_open' f_valueCount' oF oA oB oP V' E' hc
    refine nm_r (e' := fa_sum (fun j => fa_val (fa_res kd cc cx cy sz a_number f a (b + nI j))) (i + 1)) rfl ?_
    exact nm_r (nI_1 i) (ih (i + 1) (by omega) _ _ _ _ _ _ _ _ _ _)
theorem xq_msum (hK : xq_R a_kind kd) (hE : xq_R a_elsePlace el) (hJ : xq_R a_jumpPlace ju) (hz : ∀ g, g < 4 → a_bodySize g = nI (sz g) ∧ sz g ≤ 14) (hW : ∀ g, g < 4 → fa_Bd (kd g) (st g) (el g) (ju g) (cc g) (cx g) (cy g) (sz g)) {a b : Int32} (f n : Nat) (hf : f < 4) (hn : n ≤ 8) (H : xq_A post f_stacked f_made a_kind a_number a_elsePlace a_jumpPlace a_bodySize a_stack (fa_sum (fun j => fa_val (fa_res kd cc cx cy sz a_number f a (b + nI j))) n)) : wpX_sumOver post (f_stacked, f_made, f_open, f_valueCount, f_enteredInAll, f_tired, a_kind, a_number, a_elsePlace, a_jumpPlace, a_bodySize, a_stack, a_openFunction, a_openFirst, a_openSecond, a_openPlace, a_values, a_entered) (nI f) a b (nI n) := by
  unfold wpX_sumOver
  refine xq_isF (fun h => absurd h (fa_nf hf)) (fun _ _ _ => br_f (by decide) ?_)
  refine br_f (nI_pos (by omega)) ?_
  refine br_t (nI_le (b := 8) hn (by decide)) ?_
  exact ⟨n + 1, xq_sumL hK hE hJ hz hW f n hf hn H n 0 (by omega) _ _ _ _ _ _ _ _ _ _⟩
theorem xq_nsum {x a b y : Int32} (hx : (x < 0 ∨ nI 4 ≤ x) ∨ (y < 0 ∨ nI 9 ≤ y)) (H : post 0 (f_stacked, f_made, f_open, f_valueCount, f_enteredInAll, f_tired, a_kind, a_number, a_elsePlace, a_jumpPlace, a_bodySize, a_stack, a_openFunction, a_openFirst, a_openSecond, a_openPlace, a_values, a_entered)) : wpX_sumOver post (f_stacked, f_made, f_open, f_valueCount, f_enteredInAll, f_tired, a_kind, a_number, a_elsePlace, a_jumpPlace, a_bodySize, a_stack, a_openFunction, a_openFirst, a_openSecond, a_openPlace, a_values, a_entered) x a b y := by
  unfold wpX_sumOver
  refine xq_isF (fun _ => br_t rfl H) (fun f hf e => br_f (by decide) ?_)
  rcases hx with h | h | h
  · exact absurd (e ▸ h) (fa_nf hf)
  · exact br_t h H
  · refine br_c (fun _ => H) (fun _ => ?_)
    exact br_f (Int32.not_le.mpr (Int32.lt_of_lt_of_le (by decide) h)) H
theorem xq_slvL (hK : xq_R a_kind kd) (hE : xq_R a_elsePlace el) (hJ : xq_R a_jumpPlace ju) (hz : ∀ g, g < 4 → a_bodySize g = nI (sz g) ∧ sz g ≤ 14) (hW : ∀ g, g < 4 → fa_Bd (kd g) (st g) (el g) (ju g) (cc g) (cx g) (cy g) (sz g)) {a v : Int32} (f : Nat) (hf : f < 4) :
    ∀ d i : Nat, i + d = 16 → xq_A post f_stacked f_made a_kind a_number a_elsePlace a_jumpPlace a_bodySize a_stack (fa_slv (fun j => fa_res kd cc cx cy sz a_number f a (nI j)) v d i) → ∀ (f_open f_valueCount f_enteredInAll f_tired : Int32) (a_openFunction a_openFirst a_openSecond a_openPlace a_values a_entered : Nat → Int32), wX_solve_13 post (nI f) a v (d + 1) (nI i) f_stacked f_made f_open f_valueCount f_enteredInAll f_tired a_kind a_number a_elsePlace a_jumpPlace a_bodySize a_stack a_openFunction a_openFirst a_openSecond a_openPlace a_values a_entered := by
  intro d
  induction d with
  | zero =>
    intro i hi H f_open f_valueCount f_enteredInAll f_tired a_openFunction a_openFirst a_openSecond a_openPlace a_values a_entered
    have e : i = 16 := by omega
    subst e
    exact br_t (nI_lt (a := 15) (b := 16) (by decide) (by decide)) (H _ _ _ _ _ _ _ _ _ _)
  | succ d ih =>
    intro i hi H f_open f_valueCount f_enteredInAll f_tired a_openFunction a_openFirst a_openSecond a_openPlace a_values a_entered
    unfold fa_slv at H
    refine br_f (nI_nlt (a := 15) (by omega) (by decide)) ?_
    refine xq_work hK hE hJ hz hW f hf a (nI i) ?_
    intro f_open' f_valueCount' oF oA oB oP V' E' hc
    by_cases e : fa_td (fa_res kd cc cx cy sz a_number f a (nI i)) = 0
    · rw [if_pos e] at H
      refine br_t e ?_
      by_cases e2 : fa_val (fa_res kd cc cx cy sz a_number f a (nI i)) = v
      · rw [if_pos e2] at H
        exact br_t e2 (H _ _ _ _ _ _ _ _ _ _)
      · rw [if_neg e2] at H
        exact br_f e2 (nm_r (nI_1 i) (ih (i + 1) (by omega) H _ _ _ _ _ _ _ _ _ _))
    · rw [if_neg e] at H
      exact br_f e (nm_r (nI_1 i) (ih (i + 1) (by omega) H _ _ _ _ _ _ _ _ _ _))
theorem xq_msolve (hK : xq_R a_kind kd) (hE : xq_R a_elsePlace el) (hJ : xq_R a_jumpPlace ju) (hz : ∀ g, g < 4 → a_bodySize g = nI (sz g) ∧ sz g ≤ 14) (hW : ∀ g, g < 4 → fa_Bd (kd g) (st g) (el g) (ju g) (cc g) (cx g) (cy g) (sz g)) {a v : Int32} (f : Nat) (hf : f < 4) (H : xq_A post f_stacked f_made a_kind a_number a_elsePlace a_jumpPlace a_bodySize a_stack (fa_slv (fun j => fa_res kd cc cx cy sz a_number f a (nI j)) v 16 0)) : wpX_solve post (f_stacked, f_made, f_open, f_valueCount, f_enteredInAll, f_tired, a_kind, a_number, a_elsePlace, a_jumpPlace, a_bodySize, a_stack, a_openFunction, a_openFirst, a_openSecond, a_openPlace, a_values, a_entered) (nI f) a v := by
  unfold wpX_solve
  refine xq_isF (fun h => absurd h (fa_nf hf)) (fun _ _ _ => br_f (by decide) ?_)
  exact ⟨17, xq_slvL hK hE hJ hz hW f hf 16 0 rfl H _ _ _ _ _ _ _ _ _ _⟩
theorem xq_nsolve {x a v : Int32} (hx : x < 0 ∨ nI 4 ≤ x) (H : post (-1) (f_stacked, f_made, f_open, f_valueCount, f_enteredInAll, f_tired, a_kind, a_number, a_elsePlace, a_jumpPlace, a_bodySize, a_stack, a_openFunction, a_openFirst, a_openSecond, a_openPlace, a_values, a_entered)) : wpX_solve post (f_stacked, f_made, f_open, f_valueCount, f_enteredInAll, f_tired, a_kind, a_number, a_elsePlace, a_jumpPlace, a_bodySize, a_stack, a_openFunction, a_openFirst, a_openSecond, a_openPlace, a_values, a_entered) x a v := by
  unfold wpX_solve
  exact xq_isF (fun _ => br_t rfl H) (fun f hf e => absurd (e ▸ hx) (fa_nf hf))
end
section
variable {f_made f_depth f_waiting f_held f_called f_tired : Int32} {a_kinds a_parts a_numbers a_roots a_stack a_waits a_values a_firsts a_seconds a_counts : Nat → Int32} {num : Nat → Int32} {post : Int32 → SY → Prop} {kd el ju st cc cx cy : Nat → Nat → Nat} {sz : Nat → Nat}
theorem yq_nrun {x a b : Int32} (hx : x < 0 ∨ nI 4 ≤ x) (H : post 0 (f_made, f_depth, f_waiting, f_held, f_called, f_tired, a_kinds, a_parts, a_numbers, a_roots, a_stack, a_waits, a_values, a_firsts, a_seconds, a_counts)) : wpY_run post (f_made, f_depth, f_waiting, f_held, f_called, f_tired, a_kinds, a_parts, a_numbers, a_roots, a_stack, a_waits, a_values, a_firsts, a_seconds, a_counts) x a b := by
  unfold wpY_run
  exact yq_isF (fun _ => br_t rfl H) (fun f hf e => absurd (e ▸ hx) (fa_nf hf))
theorem yq_nending {x a b : Int32} (hx : x < 0 ∨ nI 4 ≤ x) (H : post (-1) (f_made, f_depth, f_waiting, f_held, f_called, f_tired, a_kinds, a_parts, a_numbers, a_roots, a_stack, a_waits, a_values, a_firsts, a_seconds, a_counts)) : wpY_ending post (f_made, f_depth, f_waiting, f_held, f_called, f_tired, a_kinds, a_parts, a_numbers, a_roots, a_stack, a_waits, a_values, a_firsts, a_seconds, a_counts) x a b := by
  unfold wpY_ending
  exact yq_isF (fun _ => br_t rfl H) (fun f hf e => absurd (e ▸ hx) (fa_nf hf))
theorem yq_ncalls {x a b : Int32} (hx : x < 0 ∨ nI 4 ≤ x) (H : post (-1) (f_made, f_depth, f_waiting, f_held, f_called, f_tired, a_kinds, a_parts, a_numbers, a_roots, a_stack, a_waits, a_values, a_firsts, a_seconds, a_counts)) : wpY_calls post (f_made, f_depth, f_waiting, f_held, f_called, f_tired, a_kinds, a_parts, a_numbers, a_roots, a_stack, a_waits, a_values, a_firsts, a_seconds, a_counts) x a b := by
  unfold wpY_calls
  exact yq_isF (fun _ => br_t rfl H) (fun f hf e => absurd (e ▸ hx) (fa_nf hf))
theorem yq_mrun (hR : ∀ g, g < 4 → ∀ p, p < sz g → yq_R a_kinds a_parts a_numbers num g (kd g) (cc g) (cx g) (cy g) p) (hz : ∀ g, g < 4 → sz g ≤ 14 ∧ a_roots g = nI (14 * g + (sz g - 1))) (hW : ∀ g, g < 4 → fa_Bd (kd g) (st g) (el g) (ju g) (cc g) (cx g) (cy g) (sz g)) {a b : Int32} (f : Nat) (hf : f < 4) (H : yq_A post f_made f_depth a_kinds a_parts a_numbers a_roots a_stack (fa_val (fa_res kd cc cx cy sz num f a b))) : wpY_run post (f_made, f_depth, f_waiting, f_held, f_called, f_tired, a_kinds, a_parts, a_numbers, a_roots, a_stack, a_waits, a_values, a_firsts, a_seconds, a_counts) (nI f) a b := by
  unfold wpY_run
  refine yq_isF (fun h => absurd h (fa_nf hf)) (fun _ _ _ => br_f (by decide) ?_)
  refine yq_work hR hz hW f hf a b ?_
  intro f_waiting' f_held' W' V' A' B' E' hc
  exact H _ _ _ _ _ _ _ _ _
theorem yq_mending (hR : ∀ g, g < 4 → ∀ p, p < sz g → yq_R a_kinds a_parts a_numbers num g (kd g) (cc g) (cx g) (cy g) p) (hz : ∀ g, g < 4 → sz g ≤ 14 ∧ a_roots g = nI (14 * g + (sz g - 1))) (hW : ∀ g, g < 4 → fa_Bd (kd g) (st g) (el g) (ju g) (cc g) (cx g) (cy g) (sz g)) {a b : Int32} (f : Nat) (hf : f < 4) (H : yq_A post f_made f_depth a_kinds a_parts a_numbers a_roots a_stack (fa_td (fa_res kd cc cx cy sz num f a b))) : wpY_ending post (f_made, f_depth, f_waiting, f_held, f_called, f_tired, a_kinds, a_parts, a_numbers, a_roots, a_stack, a_waits, a_values, a_firsts, a_seconds, a_counts) (nI f) a b := by
  unfold wpY_ending
  refine yq_isF (fun h => absurd h (fa_nf hf)) (fun _ _ _ => br_f (by decide) ?_)
  refine yq_work hR hz hW f hf a b ?_
  intro f_waiting' f_held' W' V' A' B' E' hc
  rcases fa_td01 (fa_res kd cc cx cy sz num f a b) with e | e
  · rw [e] at H
    exact br_t e (H _ _ _ _ _ _ _ _ _)
  · rw [e] at H
    exact br_f (by rw [e]; decide) (H _ _ _ _ _ _ _ _ _)
theorem yq_mcalls (hR : ∀ g, g < 4 → ∀ p, p < sz g → yq_R a_kinds a_parts a_numbers num g (kd g) (cc g) (cx g) (cy g) p) (hz : ∀ g, g < 4 → sz g ≤ 14 ∧ a_roots g = nI (14 * g + (sz g - 1))) (hW : ∀ g, g < 4 → fa_Bd (kd g) (st g) (el g) (ju g) (cc g) (cx g) (cy g) (sz g)) {a b : Int32} (f : Nat) (hf : f < 4) (H : yq_A post f_made f_depth a_kinds a_parts a_numbers a_roots a_stack (nI (fa_res kd cc cx cy sz num f a b).2.1)) : wpY_calls post (f_made, f_depth, f_waiting, f_held, f_called, f_tired, a_kinds, a_parts, a_numbers, a_roots, a_stack, a_waits, a_values, a_firsts, a_seconds, a_counts) (nI f) a b := by
  unfold wpY_calls
  refine yq_isF (fun h => absurd h (fa_nf hf)) (fun _ _ _ => br_f (by decide) ?_)
  refine yq_work hR hz hW f hf a b ?_
  intro f_waiting' f_held' W' V' A' B' E' hc
  exact H _ _ _ _ _ _ _ _ _
theorem yq_ncallsOf {x a b y : Int32} (hx : (x < 0 ∨ nI 4 ≤ x) ∨ (y < 0 ∨ nI 4 ≤ y)) (H : post (-1) (f_made, f_depth, f_waiting, f_held, f_called, f_tired, a_kinds, a_parts, a_numbers, a_roots, a_stack, a_waits, a_values, a_firsts, a_seconds, a_counts)) : wpY_callsOf post (f_made, f_depth, f_waiting, f_held, f_called, f_tired, a_kinds, a_parts, a_numbers, a_roots, a_stack, a_waits, a_values, a_firsts, a_seconds, a_counts) x a b y := by
  unfold wpY_callsOf
  refine yq_isF (fun _ => br_t rfl H) (fun f hf e => br_f (by decide) ?_)
  refine yq_isF (fun _ => br_t rfl H) (fun g hg e2 => ?_)
  rcases hx with h | h
  · exact absurd (e ▸ h) (fa_nf hf)
  · exact absurd (e2 ▸ h) (fa_nf hg)
theorem yq_mcallsOf (hR : ∀ g, g < 4 → ∀ p, p < sz g → yq_R a_kinds a_parts a_numbers num g (kd g) (cc g) (cx g) (cy g) p) (hz : ∀ g, g < 4 → sz g ≤ 14 ∧ a_roots g = nI (14 * g + (sz g - 1))) (hW : ∀ g, g < 4 → fa_Bd (kd g) (st g) (el g) (ju g) (cc g) (cx g) (cy g) (sz g)) {a b : Int32} (f : Nat) (hf : f < 4) (g : Nat) (hg : g < 4) (H : yq_A post f_made f_depth a_kinds a_parts a_numbers a_roots a_stack ((fa_res kd cc cx cy sz num f a b).2.2 g)) : wpY_callsOf post (f_made, f_depth, f_waiting, f_held, f_called, f_tired, a_kinds, a_parts, a_numbers, a_roots, a_stack, a_waits, a_values, a_firsts, a_seconds, a_counts) (nI f) a b (nI g) := by
  unfold wpY_callsOf
  refine yq_isF (fun h => absurd h (fa_nf hf)) (fun _ _ _ => br_f (by decide) ?_)
  refine yq_isF (fun h => absurd h (fa_nf hg)) (fun _ _ _ => br_f (by decide) ?_)
  refine yq_work hR hz hW f hf a b ?_
  intro f_waiting' f_held' W' V' A' B' E' hc
  refine ⟨vp_in_nI hg (by decide), ?_⟩
  rw [nI_clamp (by omega), hc g hg]
  exact H _ _ _ _ _ _ _ _ _
theorem yq_sumL (hR : ∀ g, g < 4 → ∀ p, p < sz g → yq_R a_kinds a_parts a_numbers num g (kd g) (cc g) (cx g) (cy g) p) (hz : ∀ g, g < 4 → sz g ≤ 14 ∧ a_roots g = nI (14 * g + (sz g - 1))) (hW : ∀ g, g < 4 → fa_Bd (kd g) (st g) (el g) (ju g) (cc g) (cx g) (cy g) (sz g)) {a b : Int32} (f n : Nat) (hf : f < 4) (hn : n ≤ 8) (H : yq_A post f_made f_depth a_kinds a_parts a_numbers a_roots a_stack (fa_sum (fun j => fa_val (fa_res kd cc cx cy sz num f a (b + nI j))) n)) :
    ∀ d i : Nat, i + d = n → ∀ (f_waiting f_held f_called f_tired : Int32) (a_waits a_values a_firsts a_seconds a_counts : Nat → Int32), wY_sumOver_26 post (nI f) a b (nI n) (d + 1) (fa_sum (fun j => fa_val (fa_res kd cc cx cy sz num f a (b + nI j))) i) (nI i) f_made f_depth f_waiting f_held f_called f_tired a_kinds a_parts a_numbers a_roots a_stack a_waits a_values a_firsts a_seconds a_counts := by
  intro d
  induction d with
  | zero =>
    intro i hi f_waiting f_held f_called f_tired a_waits a_values a_firsts a_seconds a_counts
    have e : i = n := by omega
    subst e
    exact br_t (Int32.le_refl _) (H _ _ _ _ _ _ _ _ _)
  | succ d ih =>
    intro i hi f_waiting f_held f_called f_tired a_waits a_values a_firsts a_seconds a_counts
    refine br_f (nI_ge (by omega) (by omega)) ?_
    refine yq_work hR hz hW f hf a (b + nI i) ?_
    intro f_waiting' f_held' W' V' A' B' E' hc
    refine nm_r (e' := fa_sum (fun j => fa_val (fa_res kd cc cx cy sz num f a (b + nI j))) (i + 1)) rfl ?_
    exact nm_r (nI_1 i) (ih (i + 1) (by omega) _ _ _ _ _ _ _ _ _)
theorem yq_msum (hR : ∀ g, g < 4 → ∀ p, p < sz g → yq_R a_kinds a_parts a_numbers num g (kd g) (cc g) (cx g) (cy g) p) (hz : ∀ g, g < 4 → sz g ≤ 14 ∧ a_roots g = nI (14 * g + (sz g - 1))) (hW : ∀ g, g < 4 → fa_Bd (kd g) (st g) (el g) (ju g) (cc g) (cx g) (cy g) (sz g)) {a b : Int32} (f n : Nat) (hf : f < 4) (hn : n ≤ 8) (H : yq_A post f_made f_depth a_kinds a_parts a_numbers a_roots a_stack (fa_sum (fun j => fa_val (fa_res kd cc cx cy sz num f a (b + nI j))) n)) : wpY_sumOver post (f_made, f_depth, f_waiting, f_held, f_called, f_tired, a_kinds, a_parts, a_numbers, a_roots, a_stack, a_waits, a_values, a_firsts, a_seconds, a_counts) (nI f) a b (nI n) := by
  unfold wpY_sumOver
  refine yq_isF (fun h => absurd h (fa_nf hf)) (fun _ _ _ => br_f (by decide) ?_)
  refine br_f (nI_pos (by omega)) ?_
  refine br_f (nI_nlt (a := 8) hn (by decide)) ?_
  exact ⟨n + 1, yq_sumL hR hz hW f n hf hn H n 0 (by omega) _ _ _ _ _ _ _ _ _⟩
theorem yq_nsum {x a b y : Int32} (hx : (x < 0 ∨ nI 4 ≤ x) ∨ (y < 0 ∨ nI 9 ≤ y)) (H : post 0 (f_made, f_depth, f_waiting, f_held, f_called, f_tired, a_kinds, a_parts, a_numbers, a_roots, a_stack, a_waits, a_values, a_firsts, a_seconds, a_counts)) : wpY_sumOver post (f_made, f_depth, f_waiting, f_held, f_called, f_tired, a_kinds, a_parts, a_numbers, a_roots, a_stack, a_waits, a_values, a_firsts, a_seconds, a_counts) x a b y := by
  unfold wpY_sumOver
  refine yq_isF (fun _ => br_t rfl H) (fun f hf e => br_f (by decide) ?_)
  rcases hx with h | h | h
  · exact absurd (e ▸ h) (fa_nf hf)
  · exact br_t h H
  · refine br_c (fun _ => H) (fun _ => ?_)
    exact br_t (Int32.lt_of_lt_of_le (by decide) h) H
theorem yq_slvL (hR : ∀ g, g < 4 → ∀ p, p < sz g → yq_R a_kinds a_parts a_numbers num g (kd g) (cc g) (cx g) (cy g) p) (hz : ∀ g, g < 4 → sz g ≤ 14 ∧ a_roots g = nI (14 * g + (sz g - 1))) (hW : ∀ g, g < 4 → fa_Bd (kd g) (st g) (el g) (ju g) (cc g) (cx g) (cy g) (sz g)) {a v : Int32} (f : Nat) (hf : f < 4) :
    ∀ d i : Nat, i + d = 16 → yq_A post f_made f_depth a_kinds a_parts a_numbers a_roots a_stack (fa_slv (fun j => fa_res kd cc cx cy sz num f a (nI j)) v d i) → ∀ (f_waiting f_held f_called f_tired : Int32) (a_waits a_values a_firsts a_seconds a_counts : Nat → Int32), wY_solve_3 post (nI f) a v (d + 1) (nI i) f_made f_depth f_waiting f_held f_called f_tired a_kinds a_parts a_numbers a_roots a_stack a_waits a_values a_firsts a_seconds a_counts := by
  intro d
  induction d with
  | zero =>
    intro i hi H f_waiting f_held f_called f_tired a_waits a_values a_firsts a_seconds a_counts
    have e : i = 16 := by omega
    subst e
    exact br_t (nI_le (a := 16) (b := 16) (by decide) (by decide)) (H _ _ _ _ _ _ _ _ _)
  | succ d ih =>
    intro i hi H f_waiting f_held f_called f_tired a_waits a_values a_firsts a_seconds a_counts
    unfold fa_slv at H
    refine br_f (nI_ge (b := 16) (by omega) (by decide)) ?_
    refine yq_isF (fun h => absurd h (fa_nf hf)) (fun _ _ _ => br_f (by decide) ?_)
    refine yq_work hR hz hW f hf a (nI i) ?_
    intro f_waiting' f_held' W' V' A' B' E' hc
    by_cases e : fa_td (fa_res kd cc cx cy sz num f a (nI i)) = 0
    · rw [if_pos e] at H
      refine br_t e ?_
      by_cases e2 : fa_val (fa_res kd cc cx cy sz num f a (nI i)) = v
      · rw [if_pos e2] at H
        exact br_t e2 (H _ _ _ _ _ _ _ _ _)
      · rw [if_neg e2] at H
        exact br_f e2 (nm_r (nI_1 i) (ih (i + 1) (by omega) H _ _ _ _ _ _ _ _ _))
    · rw [if_neg e] at H
      exact br_f e (nm_r (nI_1 i) (ih (i + 1) (by omega) H _ _ _ _ _ _ _ _ _))
theorem yq_msolve (hR : ∀ g, g < 4 → ∀ p, p < sz g → yq_R a_kinds a_parts a_numbers num g (kd g) (cc g) (cx g) (cy g) p) (hz : ∀ g, g < 4 → sz g ≤ 14 ∧ a_roots g = nI (14 * g + (sz g - 1))) (hW : ∀ g, g < 4 → fa_Bd (kd g) (st g) (el g) (ju g) (cc g) (cx g) (cy g) (sz g)) {a v : Int32} (f : Nat) (hf : f < 4) (H : yq_A post f_made f_depth a_kinds a_parts a_numbers a_roots a_stack (fa_slv (fun j => fa_res kd cc cx cy sz num f a (nI j)) v 16 0)) : wpY_solve post (f_made, f_depth, f_waiting, f_held, f_called, f_tired, a_kinds, a_parts, a_numbers, a_roots, a_stack, a_waits, a_values, a_firsts, a_seconds, a_counts) (nI f) a v :=
  ⟨17, yq_slvL hR hz hW f hf 16 0 rfl H _ _ _ _ _ _ _ _ _⟩
theorem yq_nsolve {x a v : Int32} (hx : x < 0 ∨ nI 4 ≤ x) (H : post (-1) (f_made, f_depth, f_waiting, f_held, f_called, f_tired, a_kinds, a_parts, a_numbers, a_roots, a_stack, a_waits, a_values, a_firsts, a_seconds, a_counts)) : wpY_solve post (f_made, f_depth, f_waiting, f_held, f_called, f_tired, a_kinds, a_parts, a_numbers, a_roots, a_stack, a_waits, a_values, a_firsts, a_seconds, a_counts) x a v := by
  refine ⟨1, br_f (by decide) ?_⟩
  exact yq_isF (fun _ => br_t rfl H) (fun f hf e => absurd (e ▸ hx) (fa_nf hf))
end
end
section
theorem fa_mk {k : Nat} {kd st el ju cc cx cy : Nat → Nat → Nat} {sk sz : Nat → Nat} {w m : Nat} {f_open f_valueCount f_enteredInAll f_tired : Int32} {a_kind a_number a_elsePlace a_jumpPlace a_bodySize a_stack a_openFunction a_openFirst a_openSecond a_openPlace a_values a_entered : Nat → Int32}
    {f_waiting f_held f_called g_tired : Int32} {a_kinds a_parts a_numbers a_roots b_stack a_waits b_values a_firsts a_seconds a_counts : Nat → Int32} (C : fa_C kd st el ju cc cx cy sk sz w m a_kind a_number a_elsePlace a_jumpPlace a_bodySize a_stack a_kinds a_parts a_numbers a_roots b_stack) : i_Rel k (nI w, nI m, f_open, f_valueCount, f_enteredInAll, f_tired, a_kind, a_number, a_elsePlace, a_jumpPlace, a_bodySize, a_stack, a_openFunction, a_openFirst, a_openSecond, a_openPlace, a_values, a_entered) (nI m, nI w, f_waiting, f_held, f_called, g_tired, a_kinds, a_parts, a_numbers, a_roots, b_stack, a_waits, b_values, a_firsts, a_seconds, a_counts) :=
  ⟨kd, st, el, ju, cc, cx, cy, sk, sz, w, m, f_open, f_valueCount, f_enteredInAll, f_tired, a_kind, a_number, a_elsePlace, a_jumpPlace, a_bodySize, a_stack, a_openFunction, a_openFirst, a_openSecond, a_openPlace, a_values, a_entered, f_waiting, f_held, f_called, g_tired, a_kinds, a_parts, a_numbers, a_roots, b_stack, a_waits, b_values, a_firsts, a_seconds, a_counts, rfl, rfl, C⟩
theorem fa_nlt0 {x : Int32} {n : Nat} (h : nI n ≤ x) (hn : n < 2 ^ 31) : ¬ x < 0 := Int32.not_lt.mpr (Int32.le_trans (nI_pos' hn) h)
theorem fa_z1 : (fun _ => 0 : Nat → Int32) = fun _ => nI 0 := rfl
def fa_k0 : Nat → Nat → Nat := fun g p => if p = 0 ∧ g < 4 then 8 else 0
theorem fa_C00 : fa_C fa_k0 (fun _ _ => 0) (fun _ _ => 0) (fun _ _ => 0) (fun _ _ => 0) (fun _ _ => 0) (fun _ _ => 0) (fun _ => 0) (fun _ => 1) 0 0
    (upd (upd (upd (upd (fun _ => 0) 0 8) 14 8) 28 8) 42 8) (fun _ => 0) (fun _ => 0) (fun _ => 0) (upd (upd (upd (upd (fun _ => 0) 0 1) 1 1) 2 1) 3 1) (fun _ => 0)
    (upd (upd (upd (upd (fun _ => 0) 0 9) 14 9) 28 9) 42 9) (fun _ => 0) (fun _ => 0) (upd (upd (upd (upd (fun _ => 0) 0 0) 1 14) 2 28) 3 42) (fun _ => 0) := by
  refine ⟨?_, fun _ _ _ _ => ⟨rfl, (by decide : (0 : Nat) < 99)⟩, fun _ _ _ _ => ⟨rfl, (by decide : (0 : Nat) < 99)⟩, ?_, fun _ h => absurd h (Nat.not_lt_zero _), ?_, fa_D0 _ _ _ _ _ _ _ _, ?_, ?_, fun _ h => absurd h (Nat.not_lt_zero _)⟩
  · have h : ∀ g, g < 5 → ∀ p, p < 14 → upd (upd (upd (upd (fun _ => (0 : Int32)) 0 8) 14 8) 28 8) 42 8 (14 * g + p) = nI (fa_k0 g p) ∧ fa_k0 g p < 99 := by decide +kernel
    exact fun g p hg hp => h g hg p hp
  · decide +kernel
  · intro g hg
    refine ⟨Nat.lt_succ_self 0, (by decide : (1 : Nat) ≤ 14), rfl, rfl, rfl, fun p hp => Or.inl ?_⟩
    have hp1 : p < 1 := hp
    have e : p = 0 := by omega
    subst e
    have e : fa_k0 g 0 = 8 := if_pos ⟨rfl, hg⟩
    rw [e]
    exact ⟨by decide, by decide, rfl⟩
  · intro g hg p hp
    have hp1 : p < 1 := hp
    have e : p = 0 := by omega
    subst e
    have e : fa_k0 g 0 = 8 := if_pos ⟨rfl, hg⟩
    have h : ∀ g, g < 4 → upd (upd (upd (upd (fun _ => (0 : Int32)) 0 9) 14 9) 28 9) 42 9 (14 * g + 0) = nI 9 := by decide +kernel
    unfold yq_R
    rw [e]
    exact ⟨fun _ => ⟨h g hg, rfl⟩, fun h => by omega, fun h => by omega, fun h => by omega, fun h => by omega⟩
  · decide +kernel
theorem i_vc0 : wpX_init (fun u => wpY_init (fun v => i_Rel 0 u v)) := by
  refine ⟨5, ?_⟩
  refine br_f (by decide) ⟨vp_in_iff.mpr (by decide), nm_r (e' := upd (fun _ => 0) 0 8) rfl ⟨vp_in_iff.mpr (by decide), nm_r (e' := upd (fun _ => 0) 0 1) rfl (nm_r (e' := 1) rfl ?_)⟩⟩
  refine br_f (by decide) ⟨vp_in_iff.mpr (by decide), nm_r (e' := upd (upd (fun _ => 0) 0 8) 14 8) rfl ⟨vp_in_iff.mpr (by decide), nm_r (e' := upd (upd (fun _ => 0) 0 1) 1 1) rfl (nm_r (e' := 2) rfl ?_)⟩⟩
  refine br_f (by decide) ⟨vp_in_iff.mpr (by decide), nm_r (e' := upd (upd (upd (fun _ => 0) 0 8) 14 8) 28 8) rfl ⟨vp_in_iff.mpr (by decide), nm_r (e' := upd (upd (upd (fun _ => 0) 0 1) 1 1) 2 1) rfl (nm_r (e' := 3) rfl ?_)⟩⟩
  refine br_f (by decide) ⟨vp_in_iff.mpr (by decide), nm_r (e' := upd (upd (upd (upd (fun _ => 0) 0 8) 14 8) 28 8) 42 8) rfl ⟨vp_in_iff.mpr (by decide), nm_r (e' := upd (upd (upd (upd (fun _ => 0) 0 1) 1 1) 2 1) 3 1) rfl (nm_r (e' := 4) rfl ?_)⟩⟩
  refine br_t (by decide) ?_
  refine ⟨5, ?_⟩
  refine br_f (by decide) ⟨vp_in_iff.mpr (by decide), nm_r (e' := upd (fun _ => 0) 0 0) rfl ⟨vp_in_iff.mpr (by decide), nm_r (e' := upd (fun _ => 0) 0 9) rfl (nm_r (e' := 1) rfl ?_)⟩⟩
  refine br_f (by decide) ⟨vp_in_iff.mpr (by decide), nm_r (e' := upd (upd (fun _ => 0) 0 0) 1 14) rfl ⟨vp_in_iff.mpr (by decide), nm_r (e' := upd (upd (fun _ => 0) 0 9) 14 9) rfl (nm_r (e' := 2) rfl ?_)⟩⟩
  refine br_f (by decide) ⟨vp_in_iff.mpr (by decide), nm_r (e' := upd (upd (upd (fun _ => 0) 0 0) 1 14) 2 28) rfl ⟨vp_in_iff.mpr (by decide), nm_r (e' := upd (upd (upd (fun _ => 0) 0 9) 14 9) 28 9) rfl (nm_r (e' := 3) rfl ?_)⟩⟩
  refine br_f (by decide) ⟨vp_in_iff.mpr (by decide), nm_r (e' := upd (upd (upd (upd (fun _ => 0) 0 0) 1 14) 2 28) 3 42) rfl ⟨vp_in_iff.mpr (by decide), nm_r (e' := upd (upd (upd (upd (fun _ => 0) 0 9) 14 9) 28 9) 42 9) rfl (nm_r (e' := 4) rfl ?_)⟩⟩
  refine br_t (by decide) ?_
  exact fa_mk (w := 0) (m := 0) fa_C00
theorem i_vc_constant {k : Nat} {u : SX} {v : SY} (I : i_Rel k u v) (hk : k + 5 ≤ 2560) (v1 : Int32) : wpX_constant (fun r u' => wpY_constant (fun r' v' => r' = r ∧ i_Rel (k + 5) u' v') v v1) u v1 := by
  obtain ⟨kd, st, el, ju, cc, cx, cy, sk, sz, w, m, f_open, f_valueCount, f_enteredInAll, f_tired, a_kind, a_number, a_elsePlace, a_jumpPlace, a_bodySize, a_stack, a_openFunction, a_openFirst, a_openSecond, a_openPlace, a_values, a_entered, f_waiting, f_held, f_called, g_tired, a_kinds, a_parts, a_numbers, a_roots, b_stack, a_waits, b_values, a_firsts, a_seconds, a_counts, rfl, rfl, C⟩ := I
  have W := fa_Cw C
  by_cases h1 : v1 < -20
  · exact br_t h1 (br_t h1 ⟨rfl, fa_mk C⟩)
  refine br_f h1 ?_
  by_cases h2 : v1 ≤ 20
  · refine br_t h2 ?_
    by_cases hm : m < 14
    · refine br_t (nI_lt (b := 14) hm (by decide)) ?_
      refine xq_pushTerm w m (by omega) hm ?_
      refine br_f h1 (br_t h2 (br_f (fun z => by have := (nI_eq (b := 14) (by omega) (by decide)).mp z; omega) ?_))
      refine yq_note0 w m (by omega) hm ?_
      exact ⟨rfl, fa_mk (fa_Cleaf (kv := 8) C hm (by decide) (by decide) ⟨fun _ => ⟨rfl, rfl⟩, fun h => by omega, fun h => by omega⟩)⟩
    · have e : m = 14 := by omega
      subst e
      exact br_f (nI_nlt (Nat.le_refl 14) (by decide)) (br_f h1 (br_t h2 (br_t rfl ⟨rfl, fa_mk C⟩)))
  · exact br_f h2 (br_f h1 (br_f h2 ⟨rfl, fa_mk C⟩))
theorem i_vc_argument {k : Nat} {u : SX} {v : SY} (I : i_Rel k u v) (hk : k + 5 ≤ 2560) (v1 : Int32) : wpX_argument (fun r u' => wpY_argument (fun r' v' => r' = r ∧ i_Rel (k + 5) u' v') v v1) u v1 := by
  obtain ⟨kd, st, el, ju, cc, cx, cy, sk, sz, w, m, f_open, f_valueCount, f_enteredInAll, f_tired, a_kind, a_number, a_elsePlace, a_jumpPlace, a_bodySize, a_stack, a_openFunction, a_openFirst, a_openSecond, a_openPlace, a_values, a_entered, f_waiting, f_held, f_called, g_tired, a_kinds, a_parts, a_numbers, a_roots, b_stack, a_waits, b_values, a_firsts, a_seconds, a_counts, rfl, rfl, C⟩ := I
  have W := fa_Cw C
  rcases pk_ix v1 (n := 2) (by decide) with h | h | ⟨j, hj, h⟩
  · have n0 : ¬ v1 = 0 := fun z => by rw [z] at h; exact absurd h (by decide)
    have n1 : ¬ v1 = 1 := fun z => by rw [z] at h; exact absurd h (by decide)
    exact br_f n0 (br_f n1 (br_t h ⟨rfl, fa_mk C⟩))
  · have n0 : ¬ v1 = 0 := fun z => by rw [z] at h; exact absurd h (by decide)
    have n1 : ¬ v1 = 1 := fun z => by rw [z] at h; exact absurd h (by decide)
    exact br_f n0 (br_f n1 (br_f (fa_nlt0 h (by decide)) (br_f (Int32.not_le.mpr (Int32.lt_of_lt_of_le (by decide) h)) ⟨rfl, fa_mk C⟩)))
  · by_cases hm : m < 14
    · by_cases e : j = 0
      · subst e
        subst h
        refine br_t rfl ?_
        refine br_t (nI_lt (b := 14) hm (by decide)) (br_t rfl ?_)
        unfold wX_argument_35
        refine xq_pushTerm w m (by omega) hm ?_
        refine br_f (by decide) (br_t (by decide) (br_f (fun z => by have := (nI_eq (b := 14) (by omega) (by decide)).mp z; omega) ?_))
        refine yq_note0 w m (by omega) hm ?_
        exact ⟨rfl, fa_mk (fa_Cleaf (kv := 9) C hm (by decide) (by decide) ⟨fun h => by omega, fun _ => ⟨rfl, rfl⟩, fun h => by omega⟩)⟩
      · have e1 : j = 1 := by omega
        subst e1
        subst h
        refine br_f (by decide) (br_t rfl ?_)
        refine br_t (nI_lt (b := 14) hm (by decide)) (br_f (by decide) ?_)
        unfold wX_argument_35
        refine xq_pushTerm w m (by omega) hm ?_
        refine br_f (by decide) (br_t (by decide) (br_f (fun z => by have := (nI_eq (b := 14) (by omega) (by decide)).mp z; omega) ?_))
        refine yq_note0 w m (by omega) hm ?_
        exact ⟨rfl, fa_mk (fa_Cleaf (kv := 10) C hm (by decide) (by decide) ⟨fun h => by omega, fun h => by omega, fun _ => ⟨rfl, rfl⟩⟩)⟩
    · have e : m = 14 := by omega
      subst e
      have hx : ∀ P : Prop, P → (v1 = 0 → P) ∧ (¬ v1 = 0 → (v1 = 1 → P) ∧ (¬ v1 = 1 → False)) → P := fun P p _ => p
      have hY : ¬ v1 < 0 := by subst h; exact nI_pos (by omega)
      have hY1 : v1 ≤ 1 := by subst h; exact nI_le (b := 1) (by omega) (by decide)
      refine br_c (fun _ => ?_) (fun n0 => br_t ?_ ?_)
      · exact br_f (nI_nlt (Nat.le_refl 14) (by decide)) (br_f hY (br_t hY1 (br_t rfl ⟨rfl, fa_mk C⟩)))
      · have e1 : j = 1 := by
          by_cases e0 : j = 0
          · subst e0; exact absurd h n0
          · omega
        subst e1; exact h
      · exact br_f (nI_nlt (Nat.le_refl 14) (by decide)) (br_f hY (br_t hY1 (br_t rfl ⟨rfl, fa_mk C⟩)))
theorem i_vc_two {k : Nat} {u : SX} {v : SY} (I : i_Rel k u v) (hk : k + 5 ≤ 2560) (v1 : Int32) : wpX_two (fun r u' => wpY_two (fun r' v' => r' = r ∧ i_Rel (k + 5) u' v') v v1) u v1 := by
  obtain ⟨kd, st, el, ju, cc, cx, cy, sk, sz, w, m, f_open, f_valueCount, f_enteredInAll, f_tired, a_kind, a_number, a_elsePlace, a_jumpPlace, a_bodySize, a_stack, a_openFunction, a_openFirst, a_openSecond, a_openPlace, a_values, a_entered, f_waiting, f_held, f_called, g_tired, a_kinds, a_parts, a_numbers, a_roots, b_stack, a_waits, b_values, a_firsts, a_seconds, a_counts, rfl, rfl, C⟩ := I
  have W := fa_Cw C
  rcases pk_ix v1 (n := 8) (by decide) with h | h | ⟨j, hj, h⟩
  · exact br_t h (br_t h ⟨rfl, fa_mk C⟩)
  · have n0 : ¬ v1 < 0 := fa_nlt0 h (by decide)
    have n7 : ¬ v1 ≤ 7 := Int32.not_le.mpr (Int32.lt_of_lt_of_le (by decide) h)
    exact br_f n0 (br_f n7 (br_f n0 (br_f n7 ⟨rfl, fa_mk C⟩)))
  · subst h
    have n0 : ¬ nI j < 0 := nI_pos (by omega)
    have n7 : nI j ≤ 7 := nI_le (b := 7) (by omega) (by decide)
    refine br_f n0 (br_t n7 ?_)
    by_cases hm : m < 14
    · refine br_t (nI_lt (b := 14) hm (by decide)) ?_
      by_cases hw : 2 ≤ w
      · obtain ⟨w', rfl⟩ : ∃ w', w = w' + 2 := ⟨w - 2, by omega⟩
        refine br_t (nI_le (a := 2) (by omega) (by omega)) ?_
        refine nm_r (e' := nI w') (pk_sub (a := w' + 2) (b := 2) (by omega)) ?_
        refine xq_pushTerm w' m (by omega) hm ?_
        refine br_f n0 (br_t n7 (br_f (fun z => by have := (nI_eq (b := 14) (by omega) (by decide)).mp z; omega) (br_t (nI_le (a := 2) (by omega) (by omega)) ?_)))
        refine yq_note2 w' m (by omega) hm ?_
        exact ⟨rfl, fa_mk (fa_Ctwo (kv := j) C hm (by omega))⟩
      · have nw : ¬ (2 : Int32) ≤ nI w := nI_ge (b := 2) (by omega) (by decide)
        exact br_f nw (br_f n0 (br_t n7 (br_f (fun z => by have := (nI_eq (b := 14) (by omega) (by decide)).mp z; omega) (br_f nw ⟨rfl, fa_mk C⟩))))
    · have e : m = 14 := by omega
      subst e
      exact br_f (nI_nlt (Nat.le_refl 14) (by decide)) (br_f n0 (br_t n7 (br_t rfl ⟨rfl, fa_mk C⟩)))
section
variable {f_stacked f_made f_open f_valueCount f_enteredInAll f_tired : Int32} {a_kind a_number a_elsePlace a_jumpPlace a_bodySize a_stack a_openFunction a_openFirst a_openSecond a_openPlace a_values a_entered : Nat → Int32}
theorem xq_putE {post : SX → Prop} {x y y' : Int32} (j : Nat) (hx : x = nI j) (h : j < 70) (hy : y = y') (hp : post (f_stacked, f_made, f_open, f_valueCount, f_enteredInAll, f_tired, a_kind, a_number, upd a_elsePlace j y', a_jumpPlace, a_bodySize, a_stack, a_openFunction, a_openFirst, a_openSecond, a_openPlace, a_values, a_entered)) : wpX_put__elsePlace post (f_stacked, f_made, f_open, f_valueCount, f_enteredInAll, f_tired, a_kind, a_number, a_elsePlace, a_jumpPlace, a_bodySize, a_stack, a_openFunction, a_openFirst, a_openSecond, a_openPlace, a_values, a_entered) x y := by
  subst hy
  exact xq_put_elsePlace j hx h hp
end
theorem i_vc_choose {k : Nat} {u : SX} {v : SY} (I : i_Rel k u v) (hk : k + 5 ≤ 2560) : wpX_choose (fun r u' => wpY_choose (fun r' v' => r' = r ∧ i_Rel (k + 5) u' v') v) u := by
  obtain ⟨kd, st, el, ju, cc, cx, cy, sk, sz, w, m, f_open, f_valueCount, f_enteredInAll, f_tired, a_kind, a_number, a_elsePlace, a_jumpPlace, a_bodySize, a_stack, a_openFunction, a_openFirst, a_openSecond, a_openPlace, a_values, a_entered, f_waiting, f_held, f_called, g_tired, a_kinds, a_parts, a_numbers, a_roots, b_stack, a_waits, b_values, a_firsts, a_seconds, a_counts, rfl, rfl, C⟩ := I
  have W := fa_Cw C
  by_cases hm : m < 14
  · refine br_t (nI_lt (b := 14) hm (by decide)) ?_
    by_cases hw : 3 ≤ w
    · obtain ⟨w', rfl⟩ : ∃ w', w = w' + 3 := ⟨w - 3, by omega⟩
      have D := C.2.2.2.2.2.2.1
      have l0 := (D.2.2.1 w' (by omega)).2.2.1
      have l1 := (D.2.2.1 (w' + 1) (by omega)).2.2.1
      have s0 := (C.2.2.2.2.1 w' (by omega)).1
      have s1 := (C.2.2.2.2.1 (w' + 1) (by omega)).1
      refine br_t (nI_le (a := 3) (by omega) (by omega)) ?_
      refine nm_r (e' := nI w') (pk_sub (a := w' + 3) (b := 3) (by omega)) ?_
      refine xq_at_stack w' rfl (by omega) s0 ?_
      refine xq_at_stack (w' + 1) (nI_1 w') (by omega) s1 ?_
      refine xq_putE (56 + sk w') (nI_add 56 _) (by omega) (nI_1 (sk (w' + 1))) ?_
      refine xq_put_jumpPlace (56 + sk (w' + 1)) (nI_add 56 _) (by omega) ?_
      refine xq_pushTerm w' m (by omega) hm ?_
      refine br_f (fun z => by have := (nI_eq (b := 14) (by omega) (by decide)).mp z; omega) (br_t (nI_le (a := 3) (by omega) (by omega)) ?_)
      refine yq_note3 w' m (by omega) hm ?_
      exact ⟨rfl, fa_mk (fa_Cchoose C hm)⟩
    · have nw : ¬ (3 : Int32) ≤ nI w := nI_ge (b := 3) (by omega) (by decide)
      exact br_f nw (br_f (fun z => by have := (nI_eq (b := 14) (by omega) (by decide)).mp z; omega) (br_f nw ⟨rfl, fa_mk C⟩))
  · have e : m = 14 := by omega
    subst e
    exact br_f (nI_nlt (Nat.le_refl 14) (by decide)) (br_t rfl ⟨rfl, fa_mk C⟩)
theorem i_vc_define {k : Nat} {u : SX} {v : SY} (I : i_Rel k u v) (hk : k + 5 ≤ 2560) (v1 : Int32) : wpX_define (fun r u' => wpY_define (fun r' v' => r' = r ∧ i_Rel (k + 5) u' v') v v1) u v1 := by
  obtain ⟨kd, st, el, ju, cc, cx, cy, sk, sz, w, m, f_open, f_valueCount, f_enteredInAll, f_tired, a_kind, a_number, a_elsePlace, a_jumpPlace, a_bodySize, a_stack, a_openFunction, a_openFirst, a_openSecond, a_openPlace, a_values, a_entered, f_waiting, f_held, f_called, g_tired, a_kinds, a_parts, a_numbers, a_roots, b_stack, a_waits, b_values, a_firsts, a_seconds, a_counts, rfl, rfl, C⟩ := I
  have W := fa_Cw C
  unfold wpX_define
  refine xq_isF (fun h => br_t rfl ?_) (fun f hf e => br_f (by decide) ?_)
  · rcases h with h | h
    · exact br_t h ⟨rfl, fa_mk C⟩
    · exact br_f (fa_nlt0 h (by decide)) (br_f (Int32.not_le.mpr (Int32.lt_of_lt_of_le (by decide) h)) ⟨rfl, fa_mk C⟩)
  · subst e
    have n0 : ¬ nI f < 0 := nI_pos (by omega)
    have n3 : nI f ≤ 3 := nI_le (b := 3) (by omega) (by decide)
    by_cases hw : w = 1
    · subst hw
      refine br_t rfl (xq_cpTo f hf ?_)
      refine br_f n0 (br_t n3 (br_t rfl (nm_e ⟨m + 1, ?_⟩)))
      have s0 := (C.2.2.2.2.1 0 (by omega)).2
      have h := yq_dL (post := fun r' v' => r' = nI m ∧ i_Rel (k + 5) (0, 0, f_open, f_valueCount, f_enteredInAll, f_tired, fa_cp f 14 a_kind, fa_cp f 14 a_number, fa_cp f 14 a_elsePlace, fa_cp f 14 a_jumpPlace, upd a_bodySize f (nI m), a_stack, a_openFunction, a_openFirst, a_openSecond, a_openPlace, a_values, a_entered) v') (f_depth := nI 1) (f_waiting := f_waiting) (f_held := f_held) (f_called := f_called) (f_tired := g_tired) (a_kinds := a_kinds) (a_parts := a_parts) (a_numbers := a_numbers) (a_roots := a_roots) (a_stack := b_stack) (a_waits := a_waits) (a_values := b_values) (a_firsts := a_firsts) (a_seconds := a_seconds) (a_counts := a_counts) f m hf W.2 (sk 0) s0 ⟨rfl, fa_mk (w := 0) (m := 0) (fa_Cdef C hf)⟩ m 0 (by omega)
      rw [fa_cp0, fa_cp0, Nat.mul_zero, fa_cq0] at h
      exact h
    · have nw : ¬ nI w = 1 := fun z => hw ((nI_eq (b := 1) (by omega) (by decide)).mp z)
      exact br_f nw (br_f n0 (br_t n3 (br_f nw ⟨rfl, fa_mk C⟩)))
theorem i_vc_discard {k : Nat} {u : SX} {v : SY} (I : i_Rel k u v) (hk : k + 5 ≤ 2560) : wpX_discard (fun u' => wpY_discard (fun v' => i_Rel (k + 5) u' v') v) u := by
  obtain ⟨kd, st, el, ju, cc, cx, cy, sk, sz, w, m, f_open, f_valueCount, f_enteredInAll, f_tired, a_kind, a_number, a_elsePlace, a_jumpPlace, a_bodySize, a_stack, a_openFunction, a_openFirst, a_openSecond, a_openPlace, a_values, a_entered, f_waiting, f_held, f_called, g_tired, a_kinds, a_parts, a_numbers, a_roots, b_stack, a_waits, b_values, a_firsts, a_seconds, a_counts, rfl, rfl, C⟩ := I
  exact fa_mk (k := k + 5) (w := 0) (m := 0) (fa_C0 C)
theorem i_vc_depth {k : Nat} {u : SX} {v : SY} (I : i_Rel k u v) (hk : k + 5 ≤ 2560) : wpX_depth (fun r => wpY_depth (fun r' => r' = r ∧ i_Rel (k + 5) u v) v) u := by
  obtain ⟨kd, st, el, ju, cc, cx, cy, sk, sz, w, m, f_open, f_valueCount, f_enteredInAll, f_tired, a_kind, a_number, a_elsePlace, a_jumpPlace, a_bodySize, a_stack, a_openFunction, a_openFirst, a_openSecond, a_openPlace, a_values, a_entered, f_waiting, f_held, f_called, g_tired, a_kinds, a_parts, a_numbers, a_roots, b_stack, a_waits, b_values, a_firsts, a_seconds, a_counts, rfl, rfl, C⟩ := I
  exact ⟨rfl, fa_mk C⟩
theorem i_vc_run {k : Nat} {u : SX} {v : SY} (I : i_Rel k u v) (hk : k + 5 ≤ 2560) (v1 : Int32) (v2 : Int32) (v3 : Int32) : wpX_run (fun r u' => wpY_run (fun r' v' => r' = r ∧ i_Rel (k + 5) u' v') v v1 v2 v3) u v1 v2 v3 := by
  obtain ⟨kd, st, el, ju, cc, cx, cy, sk, sz, w, m, f_open, f_valueCount, f_enteredInAll, f_tired, a_kind, a_number, a_elsePlace, a_jumpPlace, a_bodySize, a_stack, a_openFunction, a_openFirst, a_openSecond, a_openPlace, a_values, a_entered, f_waiting, f_held, f_called, g_tired, a_kinds, a_parts, a_numbers, a_roots, b_stack, a_waits, b_values, a_firsts, a_seconds, a_counts, rfl, rfl, C⟩ := I
  obtain ⟨h1, h2, h3, h4, h5, h6, h7, h8, h9, h10⟩ := id C
  rcases pk_ix v1 (n := 4) (by decide) with h | h | ⟨f, hf, h⟩
  · exact xq_nrun (Or.inl h) (yq_nrun (Or.inl h) ⟨rfl, fa_mk C⟩)
  · exact xq_nrun (Or.inr h) (yq_nrun (Or.inr h) ⟨rfl, fa_mk C⟩)
  · subst h
    refine xq_mrun h1 h2 h3 h4 h6 f hf ?_
    intro s0 s1 s2 s3 s4 s5 s6 s7 s8 s9
    refine yq_mrun h8 h9 h6 f hf ?_
    intro t0 t1 t2 t3 t4 t5 t6 t7 t8
    exact ⟨rfl, fa_mk C⟩
theorem i_vc_ending {k : Nat} {u : SX} {v : SY} (I : i_Rel k u v) (hk : k + 5 ≤ 2560) (v1 : Int32) (v2 : Int32) (v3 : Int32) : wpX_ending (fun r u' => wpY_ending (fun r' v' => r' = r ∧ i_Rel (k + 5) u' v') v v1 v2 v3) u v1 v2 v3 := by
  obtain ⟨kd, st, el, ju, cc, cx, cy, sk, sz, w, m, f_open, f_valueCount, f_enteredInAll, f_tired, a_kind, a_number, a_elsePlace, a_jumpPlace, a_bodySize, a_stack, a_openFunction, a_openFirst, a_openSecond, a_openPlace, a_values, a_entered, f_waiting, f_held, f_called, g_tired, a_kinds, a_parts, a_numbers, a_roots, b_stack, a_waits, b_values, a_firsts, a_seconds, a_counts, rfl, rfl, C⟩ := I
  obtain ⟨h1, h2, h3, h4, h5, h6, h7, h8, h9, h10⟩ := id C
  rcases pk_ix v1 (n := 4) (by decide) with h | h | ⟨f, hf, h⟩
  · exact xq_nending (Or.inl h) (yq_nending (Or.inl h) ⟨rfl, fa_mk C⟩)
  · exact xq_nending (Or.inr h) (yq_nending (Or.inr h) ⟨rfl, fa_mk C⟩)
  · subst h
    refine xq_mending h1 h2 h3 h4 h6 f hf ?_
    intro s0 s1 s2 s3 s4 s5 s6 s7 s8 s9
    refine yq_mending h8 h9 h6 f hf ?_
    intro t0 t1 t2 t3 t4 t5 t6 t7 t8
    exact ⟨rfl, fa_mk C⟩
theorem i_vc_calls {k : Nat} {u : SX} {v : SY} (I : i_Rel k u v) (hk : k + 5 ≤ 2560) (v1 : Int32) (v2 : Int32) (v3 : Int32) : wpX_calls (fun r u' => wpY_calls (fun r' v' => r' = r ∧ i_Rel (k + 5) u' v') v v1 v2 v3) u v1 v2 v3 := by
  obtain ⟨kd, st, el, ju, cc, cx, cy, sk, sz, w, m, f_open, f_valueCount, f_enteredInAll, f_tired, a_kind, a_number, a_elsePlace, a_jumpPlace, a_bodySize, a_stack, a_openFunction, a_openFirst, a_openSecond, a_openPlace, a_values, a_entered, f_waiting, f_held, f_called, g_tired, a_kinds, a_parts, a_numbers, a_roots, b_stack, a_waits, b_values, a_firsts, a_seconds, a_counts, rfl, rfl, C⟩ := I
  obtain ⟨h1, h2, h3, h4, h5, h6, h7, h8, h9, h10⟩ := id C
  rcases pk_ix v1 (n := 4) (by decide) with h | h | ⟨f, hf, h⟩
  · exact xq_ncalls (Or.inl h) (yq_ncalls (Or.inl h) ⟨rfl, fa_mk C⟩)
  · exact xq_ncalls (Or.inr h) (yq_ncalls (Or.inr h) ⟨rfl, fa_mk C⟩)
  · subst h
    refine xq_mcalls h1 h2 h3 h4 h6 f hf ?_
    intro s0 s1 s2 s3 s4 s5 s6 s7 s8 s9
    refine yq_mcalls h8 h9 h6 f hf ?_
    intro t0 t1 t2 t3 t4 t5 t6 t7 t8
    exact ⟨rfl, fa_mk C⟩
theorem i_vc_callsOf {k : Nat} {u : SX} {v : SY} (I : i_Rel k u v) (hk : k + 5 ≤ 2560) (v1 : Int32) (v2 : Int32) (v3 : Int32) (v4 : Int32) : wpX_callsOf (fun r u' => wpY_callsOf (fun r' v' => r' = r ∧ i_Rel (k + 5) u' v') v v1 v2 v3 v4) u v1 v2 v3 v4 := by
  obtain ⟨kd, st, el, ju, cc, cx, cy, sk, sz, w, m, f_open, f_valueCount, f_enteredInAll, f_tired, a_kind, a_number, a_elsePlace, a_jumpPlace, a_bodySize, a_stack, a_openFunction, a_openFirst, a_openSecond, a_openPlace, a_values, a_entered, f_waiting, f_held, f_called, g_tired, a_kinds, a_parts, a_numbers, a_roots, b_stack, a_waits, b_values, a_firsts, a_seconds, a_counts, rfl, rfl, C⟩ := I
  obtain ⟨h1, h2, h3, h4, h5, h6, h7, h8, h9, h10⟩ := id C
  rcases pk_ix v1 (n := 4) (by decide) with h | h | ⟨f, hf, h⟩
  · exact xq_ncallsOf (Or.inl (Or.inl h)) (yq_ncallsOf (Or.inl (Or.inl h)) ⟨rfl, fa_mk C⟩)
  · exact xq_ncallsOf (Or.inl (Or.inr h)) (yq_ncallsOf (Or.inl (Or.inr h)) ⟨rfl, fa_mk C⟩)
  · rcases pk_ix v4 (n := 4) (by decide) with h' | h' | ⟨g, hg, h'⟩
    · exact xq_ncallsOf (Or.inr (Or.inl h')) (yq_ncallsOf (Or.inr (Or.inl h')) ⟨rfl, fa_mk C⟩)
    · exact xq_ncallsOf (Or.inr (Or.inr h')) (yq_ncallsOf (Or.inr (Or.inr h')) ⟨rfl, fa_mk C⟩)
    · subst h h'
      refine xq_mcallsOf h1 h2 h3 h4 h6 f hf g hg ?_
      intro s0 s1 s2 s3 s4 s5 s6 s7 s8 s9
      refine yq_mcallsOf h8 h9 h6 f hf g hg ?_
      intro t0 t1 t2 t3 t4 t5 t6 t7 t8
      exact ⟨rfl, fa_mk C⟩
theorem i_vc_sumOver {k : Nat} {u : SX} {v : SY} (I : i_Rel k u v) (hk : k + 5 ≤ 2560) (v1 : Int32) (v2 : Int32) (v3 : Int32) (v4 : Int32) : wpX_sumOver (fun r u' => wpY_sumOver (fun r' v' => r' = r ∧ i_Rel (k + 5) u' v') v v1 v2 v3 v4) u v1 v2 v3 v4 := by
  obtain ⟨kd, st, el, ju, cc, cx, cy, sk, sz, w, m, f_open, f_valueCount, f_enteredInAll, f_tired, a_kind, a_number, a_elsePlace, a_jumpPlace, a_bodySize, a_stack, a_openFunction, a_openFirst, a_openSecond, a_openPlace, a_values, a_entered, f_waiting, f_held, f_called, g_tired, a_kinds, a_parts, a_numbers, a_roots, b_stack, a_waits, b_values, a_firsts, a_seconds, a_counts, rfl, rfl, C⟩ := I
  obtain ⟨h1, h2, h3, h4, h5, h6, h7, h8, h9, h10⟩ := id C
  rcases pk_ix v1 (n := 4) (by decide) with h | h | ⟨f, hf, h⟩
  · exact xq_nsum (Or.inl (Or.inl h)) (yq_nsum (Or.inl (Or.inl h)) ⟨rfl, fa_mk C⟩)
  · exact xq_nsum (Or.inl (Or.inr h)) (yq_nsum (Or.inl (Or.inr h)) ⟨rfl, fa_mk C⟩)
  · rcases pk_ix v4 (n := 9) (by decide) with h' | h' | ⟨g, hg, h'⟩
    · exact xq_nsum (Or.inr (Or.inl h')) (yq_nsum (Or.inr (Or.inl h')) ⟨rfl, fa_mk C⟩)
    · exact xq_nsum (Or.inr (Or.inr h')) (yq_nsum (Or.inr (Or.inr h')) ⟨rfl, fa_mk C⟩)
    · subst h h'
      refine xq_msum h1 h2 h3 h4 h6 f g hf (by omega) ?_
      intro s0 s1 s2 s3 s4 s5 s6 s7 s8 s9
      refine yq_msum h8 h9 h6 f g hf (by omega) ?_
      intro t0 t1 t2 t3 t4 t5 t6 t7 t8
      exact ⟨rfl, fa_mk C⟩
theorem i_vc_solve {k : Nat} {u : SX} {v : SY} (I : i_Rel k u v) (hk : k + 5 ≤ 2560) (v1 : Int32) (v2 : Int32) (v3 : Int32) : wpX_solve (fun r u' => wpY_solve (fun r' v' => r' = r ∧ i_Rel (k + 5) u' v') v v1 v2 v3) u v1 v2 v3 := by
  obtain ⟨kd, st, el, ju, cc, cx, cy, sk, sz, w, m, f_open, f_valueCount, f_enteredInAll, f_tired, a_kind, a_number, a_elsePlace, a_jumpPlace, a_bodySize, a_stack, a_openFunction, a_openFirst, a_openSecond, a_openPlace, a_values, a_entered, f_waiting, f_held, f_called, g_tired, a_kinds, a_parts, a_numbers, a_roots, b_stack, a_waits, b_values, a_firsts, a_seconds, a_counts, rfl, rfl, C⟩ := I
  obtain ⟨h1, h2, h3, h4, h5, h6, h7, h8, h9, h10⟩ := id C
  rcases pk_ix v1 (n := 4) (by decide) with h | h | ⟨f, hf, h⟩
  · exact xq_nsolve (Or.inl h) (yq_nsolve (Or.inl h) ⟨rfl, fa_mk C⟩)
  · exact xq_nsolve (Or.inr h) (yq_nsolve (Or.inr h) ⟨rfl, fa_mk C⟩)
  · subst h
    refine xq_msolve h1 h2 h3 h4 h6 f hf ?_
    intro s0 s1 s2 s3 s4 s5 s6 s7 s8 s9
    refine yq_msolve h8 h9 h6 f hf ?_
    intro t0 t1 t2 t3 t4 t5 t6 t7 t8
    exact ⟨rfl, fa_mk C⟩
end
