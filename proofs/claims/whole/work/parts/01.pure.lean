/-- the evaluator that both sides are held against: rows of terms by function and place, a count of calls, a count a function -/
def fa_bind (r : Option Int32 × Nat × (Nat → Int32)) (k : Int32 → Nat → (Nat → Int32) → Option Int32 × Nat × (Nat → Int32)) : Option Int32 × Nat × (Nat → Int32) :=
  match r with
  | (none, n, c) => (none, n, c)
  | (some v, n, c) => k v n c
def fa_comb (k : Nat) (x y : Int32) : Int32 := if k = 0 then x + y else if k = 1 then x - y else if k = 2 then x * y else if x < y then 1 else 0
section
variable (kd : Nat → Nat → Nat) (nm : Nat → Nat → Int32) (cc cx cy : Nat → Nat → Nat) (sz : Nat → Nat)
def fa_ev : Nat → Nat → Nat → Int32 → Int32 → Nat → (Nat → Int32) → Option Int32 × Nat × (Nat → Int32)
  | 0, _, _, _, _, n, c => (none, n, c)
  | F + 1, g, p, a, b, n, c =>
    if kd g p = 8 then (some (nm g p), n, c)
    else if kd g p = 9 then (some a, n, c)
    else if kd g p = 10 then (some b, n, c)
    else if kd g p = 11 then
      fa_bind (fa_ev F g (cc g p) a b n c) (fun v n1 c1 => if v = 0 then fa_ev F g (cy g p) a b n1 c1 else fa_ev F g (cx g p) a b n1 c1)
    else fa_bind (fa_ev F g (cx g p) a b n c) (fun x n1 c1 => fa_bind (fa_ev F g (cy g p) a b n1 c1) (fun y n2 c2 =>
      if kd g p < 4 then (some (fa_comb (kd g p) x y), n2, c2)
      else if 60 ≤ n2 then (none, n2, c2)
      else fa_ev F (kd g p - 4) (sz (kd g p - 4) - 1) x y (n2 + 1) (upd c2 (kd g p - 4) (c2 (kd g p - 4) + 1))))
variable {kd nm cc cx cy sz}
variable {F g p n n1 n2 : Nat} {a b x y v : Int32} {c c1 c2 : Nat → Int32}
theorem fa_ev8 (h : kd g p = 8) : fa_ev kd nm cc cx cy sz (F + 1) g p a b n c = (some (nm g p), n, c) := by
  rw [fa_ev, if_pos h]
theorem fa_ev9 (h : kd g p = 9) : fa_ev kd nm cc cx cy sz (F + 1) g p a b n c = (some a, n, c) := by
  rw [fa_ev, if_neg (by omega), if_pos h]
theorem fa_ev10 (h : kd g p = 10) : fa_ev kd nm cc cx cy sz (F + 1) g p a b n c = (some b, n, c) := by
  rw [fa_ev, if_neg (by omega), if_neg (by omega), if_pos h]
theorem fa_evHn (h : kd g p = 11) (e1 : fa_ev kd nm cc cx cy sz F g (cc g p) a b n c = (none, n1, c1)) : fa_ev kd nm cc cx cy sz (F + 1) g p a b n c = (none, n1, c1) := by
  rw [fa_ev, if_neg (by omega), if_neg (by omega), if_neg (by omega), if_pos h, e1]; rfl
theorem fa_evHz (h : kd g p = 11) (e1 : fa_ev kd nm cc cx cy sz F g (cc g p) a b n c = (some v, n1, c1)) (hv : v = 0) : fa_ev kd nm cc cx cy sz (F + 1) g p a b n c = fa_ev kd nm cc cx cy sz F g (cy g p) a b n1 c1 := by
  rw [fa_ev, if_neg (by omega), if_neg (by omega), if_neg (by omega), if_pos h, e1]
  exact if_pos hv
theorem fa_evHx (h : kd g p = 11) (e1 : fa_ev kd nm cc cx cy sz F g (cc g p) a b n c = (some v, n1, c1)) (hv : ¬ v = 0) : fa_ev kd nm cc cx cy sz (F + 1) g p a b n c = fa_ev kd nm cc cx cy sz F g (cx g p) a b n1 c1 := by
  rw [fa_ev, if_neg (by omega), if_neg (by omega), if_neg (by omega), if_pos h, e1]
  exact if_neg hv
theorem fa_evT (h : kd g p ≤ 7) : fa_ev kd nm cc cx cy sz (F + 1) g p a b n c = fa_bind (fa_ev kd nm cc cx cy sz F g (cx g p) a b n c) (fun x n1 c1 => fa_bind (fa_ev kd nm cc cx cy sz F g (cy g p) a b n1 c1) (fun y n2 c2 =>
      if kd g p < 4 then (some (fa_comb (kd g p) x y), n2, c2)
      else if 60 ≤ n2 then (none, n2, c2)
      else fa_ev kd nm cc cx cy sz F (kd g p - 4) (sz (kd g p - 4) - 1) x y (n2 + 1) (upd c2 (kd g p - 4) (c2 (kd g p - 4) + 1)))) := by
  rw [fa_ev, if_neg (by omega), if_neg (by omega), if_neg (by omega), if_neg (by omega)]
theorem fa_evTn (h : kd g p ≤ 7) (e1 : fa_ev kd nm cc cx cy sz F g (cx g p) a b n c = (none, n1, c1)) : fa_ev kd nm cc cx cy sz (F + 1) g p a b n c = (none, n1, c1) := by
  rw [fa_evT h, e1]; rfl
theorem fa_evTm (h : kd g p ≤ 7) (e1 : fa_ev kd nm cc cx cy sz F g (cx g p) a b n c = (some x, n1, c1)) (e2 : fa_ev kd nm cc cx cy sz F g (cy g p) a b n1 c1 = (none, n2, c2)) : fa_ev kd nm cc cx cy sz (F + 1) g p a b n c = (none, n2, c2) := by
  rw [fa_evT h, e1]
  show fa_bind (fa_ev kd nm cc cx cy sz F g (cy g p) a b n1 c1) _ = _
  rw [e2]; rfl
theorem fa_evTs (h : kd g p ≤ 7) (e1 : fa_ev kd nm cc cx cy sz F g (cx g p) a b n c = (some x, n1, c1)) (e2 : fa_ev kd nm cc cx cy sz F g (cy g p) a b n1 c1 = (some y, n2, c2)) : fa_ev kd nm cc cx cy sz (F + 1) g p a b n c =
      (if kd g p < 4 then (some (fa_comb (kd g p) x y), n2, c2)
      else if 60 ≤ n2 then (none, n2, c2)
      else fa_ev kd nm cc cx cy sz F (kd g p - 4) (sz (kd g p - 4) - 1) x y (n2 + 1) (upd c2 (kd g p - 4) (c2 (kd g p - 4) + 1))) := by
  rw [fa_evT h, e1]
  show fa_bind (fa_ev kd nm cc cx cy sz F g (cy g p) a b n1 c1) _ = _
  rw [e2]; rfl
theorem fa_evTo (h : kd g p < 4) (e1 : fa_ev kd nm cc cx cy sz F g (cx g p) a b n c = (some x, n1, c1)) (e2 : fa_ev kd nm cc cx cy sz F g (cy g p) a b n1 c1 = (some y, n2, c2)) : fa_ev kd nm cc cx cy sz (F + 1) g p a b n c = (some (fa_comb (kd g p) x y), n2, c2) := by
  rw [fa_evTs (by omega) e1 e2, if_pos h]
theorem fa_evTt (h : kd g p ≤ 7) (h4 : ¬ kd g p < 4) (h60 : 60 ≤ n2) (e1 : fa_ev kd nm cc cx cy sz F g (cx g p) a b n c = (some x, n1, c1)) (e2 : fa_ev kd nm cc cx cy sz F g (cy g p) a b n1 c1 = (some y, n2, c2)) : fa_ev kd nm cc cx cy sz (F + 1) g p a b n c = (none, n2, c2) := by
  rw [fa_evTs h e1 e2, if_neg h4, if_pos h60]
theorem fa_evTc (h : kd g p ≤ 7) (h4 : ¬ kd g p < 4) (h60 : ¬ 60 ≤ n2) (e1 : fa_ev kd nm cc cx cy sz F g (cx g p) a b n c = (some x, n1, c1)) (e2 : fa_ev kd nm cc cx cy sz F g (cy g p) a b n1 c1 = (some y, n2, c2)) : fa_ev kd nm cc cx cy sz (F + 1) g p a b n c = fa_ev kd nm cc cx cy sz F (kd g p - 4) (sz (kd g p - 4) - 1) x y (n2 + 1) (upd c2 (kd g p - 4) (c2 (kd g p - 4) + 1)) := by
  rw [fa_evTs h e1 e2, if_neg h4, if_neg h60]
end
/-- what holds at one place of a row: its parts stand before it in order, and the marks of choose stand at its C and X -/
def fa_LC (k st el ju cc cx cy : Nat → Nat) (p : Nat) : Prop :=
  (8 ≤ k p ∧ k p ≤ 10 ∧ st p = p) ∨
  (k p ≤ 7 ∧ cy p + 1 = p ∧ cx p + 1 = st (cy p) ∧ st p = st (cx p) ∧ st (cx p) ≤ cx p ∧ st (cy p) ≤ cy p ∧ el (cx p) = 0 ∧ ju (cx p) = 0 ∧ el (cy p) = 0 ∧ ju (cy p) = 0) ∨
  (k p = 11 ∧ cy p + 1 = p ∧ cx p + 1 = st (cy p) ∧ cc p + 1 = st (cx p) ∧ st p = st (cc p) ∧ st (cc p) ≤ cc p ∧ st (cx p) ≤ cx p ∧ st (cy p) ≤ cy p ∧ el (cc p) = cx p + 1 ∧ el (cx p) = 0 ∧ ju (cx p) = p ∧ el (cy p) = 0 ∧ ju (cy p) = 0)
/-- a whole body -/
def fa_Bd (k st el ju cc cx cy : Nat → Nat) (z : Nat) : Prop :=
  0 < z ∧ z ≤ 14 ∧ st (z - 1) = 0 ∧ el (z - 1) = 0 ∧ ju (z - 1) = 0 ∧ ∀ p, p < z → fa_LC k st el ju cc cx cy p
/-- where the machine stands once the value v of place p is known -/
def fa_G (el ju : Nat → Nat → Nat) (L : Nat → List (Nat × Int32 × Int32 × Nat) → List Int32 → Nat → (Nat → Int32) → Prop) (s g : Nat) (a b : Int32) (p : Nat) (fr : List (Nat × Int32 × Int32 × Nat)) (v : Int32) (vs : List Int32) (n : Nat) (c : Nat → Int32) : Prop :=
  L s ((g, a, b, if el g p = 0 then (if ju g p = 0 then p + 1 else ju g p) else (if v = 0 then el g p else p + 1)) :: fr) (if el g p = 0 then v :: vs else vs) n c
section
variable {el ju : Nat → Nat → Nat} {L : Nat → List (Nat × Int32 × Int32 × Nat) → List Int32 → Nat → (Nat → Int32) → Prop} {s g : Nat} {a b : Int32} {p : Nat} {fr : List (Nat × Int32 × Int32 × Nat)} {v : Int32} {vs : List Int32} {n : Nat} {c : Nat → Int32}
theorem fa_G0 (he : el g p = 0) (hj : ju g p = 0) : fa_G el ju L s g a b p fr v vs n c = L s ((g, a, b, p + 1) :: fr) (v :: vs) n c := by
  unfold fa_G; rw [if_pos he, if_pos hj, if_pos he]
theorem fa_Gj (he : el g p = 0) (hj : ¬ ju g p = 0) : fa_G el ju L s g a b p fr v vs n c = L s ((g, a, b, ju g p) :: fr) (v :: vs) n c := by
  unfold fa_G; rw [if_pos he, if_neg hj, if_pos he]
theorem fa_Gz (he : ¬ el g p = 0) (hv : v = 0) : fa_G el ju L s g a b p fr v vs n c = L s ((g, a, b, el g p) :: fr) vs n c := by
  unfold fa_G; rw [if_neg he, if_pos hv, if_neg he]
theorem fa_Gx (he : ¬ el g p = 0) (hv : ¬ v = 0) : fa_G el ju L s g a b p fr v vs n c = L s ((g, a, b, p + 1) :: fr) vs n c := by
  unfold fa_G; rw [if_neg he, if_neg hv, if_neg he]
end
set_option maxHeartbeats 1000000 in
theorem fa_sim (kd : Nat → Nat → Nat) (nm : Nat → Nat → Int32) (cc cx cy : Nat → Nat → Nat) (sz : Nat → Nat) (st el ju : Nat → Nat → Nat)
    (L : Nat → List (Nat × Int32 × Int32 × Nat) → List Int32 → Nat → (Nat → Int32) → Prop) (T : Nat → (Nat → Int32) → Prop)
    (hW : ∀ g, g < 4 → fa_Bd (kd g) (st g) (el g) (ju g) (cc g) (cx g) (cy g) (sz g))
    (hC : ∀ (s g : Nat) (a b : Int32) (p : Nat) (fr : List (Nat × Int32 × Int32 × Nat)) (vs : List Int32) (n : Nat) (c : Nat → Int32), s < 900 → g < 4 → p < sz g → kd g p = 8 → vs.length < 840 → fr.length < 60 → fa_G el ju L (s + 1) g a b p fr (nm g p) vs n c → L s ((g, a, b, p) :: fr) vs n c)
    (hF : ∀ (s g : Nat) (a b : Int32) (p : Nat) (fr : List (Nat × Int32 × Int32 × Nat)) (vs : List Int32) (n : Nat) (c : Nat → Int32), s < 900 → g < 4 → p < sz g → kd g p = 9 → vs.length < 840 → fr.length < 60 → fa_G el ju L (s + 1) g a b p fr a vs n c → L s ((g, a, b, p) :: fr) vs n c)
    (hS : ∀ (s g : Nat) (a b : Int32) (p : Nat) (fr : List (Nat × Int32 × Int32 × Nat)) (vs : List Int32) (n : Nat) (c : Nat → Int32), s < 900 → g < 4 → p < sz g → kd g p = 10 → vs.length < 840 → fr.length < 60 → fa_G el ju L (s + 1) g a b p fr b vs n c → L s ((g, a, b, p) :: fr) vs n c)
    (hH : ∀ (s g : Nat) (a b : Int32) (p : Nat) (fr : List (Nat × Int32 × Int32 × Nat)) (v : Int32) (vs : List Int32) (n : Nat) (c : Nat → Int32), s < 900 → g < 4 → p < sz g → kd g p = 11 → vs.length < 840 → fr.length < 60 → fa_G el ju L (s + 1) g a b p fr v vs n c → L s ((g, a, b, p) :: fr) (v :: vs) n c)
    (hT : ∀ (s g : Nat) (a b : Int32) (p : Nat) (fr : List (Nat × Int32 × Int32 × Nat)) (x y : Int32) (vs : List Int32) (n : Nat) (c : Nat → Int32), s < 900 → g < 4 → p < sz g → kd g p < 4 → vs.length < 839 → fr.length < 60 → fa_G el ju L (s + 1) g a b p fr (fa_comb (kd g p) x y) vs n c → L s ((g, a, b, p) :: fr) (y :: x :: vs) n c)
    (hK : ∀ (s g : Nat) (a b : Int32) (p : Nat) (fr : List (Nat × Int32 × Int32 × Nat)) (x y : Int32) (vs : List Int32) (n : Nat) (c : Nat → Int32), s < 900 → g < 4 → p < sz g → kd g p ≤ 7 → ¬ kd g p < 4 → n < 60 → vs.length < 839 → fr.length + 1 ≤ n → L (s + 1) ((kd g p - 4, x, y, 0) :: (g, a, b, p) :: fr) vs (n + 1) (upd c (kd g p - 4) (c (kd g p - 4) + 1)) → L s ((g, a, b, p) :: fr) (y :: x :: vs) n c)
    (hX : ∀ (s g : Nat) (a b : Int32) (p : Nat) (fr : List (Nat × Int32 × Int32 × Nat)) (x y : Int32) (vs : List Int32) (n : Nat) (c : Nat → Int32), s < 900 → g < 4 → p < sz g → kd g p ≤ 7 → ¬ kd g p < 4 → n = 60 → vs.length < 839 → fr.length < 60 → T n c → L s ((g, a, b, p) :: fr) (y :: x :: vs) n c)
    (hL : ∀ (s g : Nat) (a b : Int32) (p : Nat) (g' : Nat) (a' b' : Int32) (p' : Nat) (fr : List (Nat × Int32 × Int32 × Nat)) (v : Int32) (vs : List Int32) (n : Nat) (c : Nat → Int32), s < 900 → g < 4 → p = sz g → g' < 4 → p' < sz g' → vs.length < 840 → fr.length < 59 → fa_G el ju L (s + 1) g' a' b' p' fr v vs n c → L s ((g, a, b, p) :: (g', a', b', p') :: fr) (v :: vs) n c) :
    ∀ (F g p : Nat) (a b : Int32) (n : Nat) (c : Nat → Int32) (s : Nat) (fr : List (Nat × Int32 × Int32 × Nat)) (vs : List Int32),
      (60 - n) * 15 + p + 1 ≤ F → n ≤ 60 → g < 4 → p < sz g → s + (p + 1 - st g p) ≤ 15 * n → vs.length ≤ 14 * fr.length + st g p → fr.length + 1 ≤ n →
      (∀ (v : Int32) (n' : Nat) (c' : Nat → Int32) (s' : Nat), fa_ev kd nm cc cx cy sz F g p a b n c = (some v, n', c') → n ≤ n' → n' ≤ 60 → s' ≤ s + (p + 1 - st g p) + 15 * (n' - n) → fa_G el ju L s' g a b p fr v vs n' c') →
      (∀ (n' : Nat) (c' : Nat → Int32), fa_ev kd nm cc cx cy sz F g p a b n c = (none, n', c') → T n' c') →
      L s ((g, a, b, st g p) :: fr) vs n c := by
  intro F
  induction F with
  | zero => intro g p a b n c s fr vs h; omega
  | succ F ih =>
    intro g p a b n c s fr vs hF' hn hg hp hs hv hf KS KN
    obtain ⟨z0, z14, zs, ze, zj, hLC⟩ := hW g hg
    rcases hLC p hp with ⟨h8, h10, e⟩ | ⟨h7, ey, ex, es, lx, ly, x1, x2, y1, y2⟩ | ⟨h11, ey, ex, ec, es, lc, lx, ly, c1, x1, x2, y1, y2⟩
    · rw [e]
      by_cases k8 : kd g p = 8
      · exact hC s g a b p fr vs n c (by omega) hg hp k8 (by omega) (by omega) (KS _ _ _ _ (fa_ev8 k8) (Nat.le_refl _) hn (by omega))
      by_cases k9 : kd g p = 9
      · exact hF s g a b p fr vs n c (by omega) hg hp k9 (by omega) (by omega) (KS _ _ _ _ (fa_ev9 k9) (Nat.le_refl _) hn (by omega))
      have k10 : kd g p = 10 := by omega
      exact hS s g a b p fr vs n c (by omega) hg hp k10 (by omega) (by omega) (KS _ _ _ _ (fa_ev10 k10) (Nat.le_refl _) hn (by omega))
    · rw [es]
      refine ih g (cx g p) a b n c s fr vs (by omega) hn hg (by omega) (by omega) (by omega) hf ?_ ?_
      · intro vx n1 c1 s1 e1 hn1 hn1' hs1
        rw [fa_G0 x1 x2, ex]
        refine ih g (cy g p) a b n1 c1 s1 fr (vx :: vs) (by omega) hn1' hg (by omega) (by omega) (by rw [List.length_cons]; omega) (by omega) ?_ ?_
        · intro vy n2 c2 s2 e2 hn2 hn2' hs2
          rw [fa_G0 y1 y2, ey]
          by_cases k4 : kd g p < 4
          · exact hT s2 g a b p fr vx vy vs n2 c2 (by omega) hg hp k4 (by omega) (by omega) (KS _ _ _ _ (fa_evTo k4 e1 e2) (by omega) hn2' (by omega))
          by_cases h60 : 60 ≤ n2
          · exact hX s2 g a b p fr vx vy vs n2 c2 (by omega) hg hp h7 k4 (by omega) (by omega) (by omega) (KN _ _ (fa_evTt h7 k4 h60 e1 e2))
          have hev := fa_evTc h7 k4 h60 e1 e2
          have hg' : kd g p - 4 < 4 := by omega
          obtain ⟨w0, w14, ws, we, wj, _⟩ := hW (kd g p - 4) hg'
          refine hK s2 g a b p fr vx vy vs n2 c2 (by omega) hg hp h7 k4 (by omega) (by omega) (by omega) ?_
          rw [← ws]
          refine ih (kd g p - 4) (sz (kd g p - 4) - 1) vx vy (n2 + 1) _ (s2 + 1) ((g, a, b, p) :: fr) vs (by omega) (by omega) hg' (by omega) (by omega) (by rw [List.length_cons]; omega) (by rw [List.length_cons]; omega) ?_ ?_
          · intro v n3 c3 s3 e3 hn3 hn3' hs3
            rw [fa_G0 we wj]
            exact hL s3 (kd g p - 4) vx vy (sz (kd g p - 4) - 1 + 1) g a b p fr v vs n3 c3 (by omega) hg' (by omega) hg hp (by omega) (by omega) (KS _ _ _ _ (hev.trans e3) (by omega) hn3' (by omega))
          · intro n3 c3 e3
            exact KN _ _ (hev.trans e3)
        · intro n2 c2 e2
          exact KN _ _ (fa_evTm h7 e1 e2)
      · intro n1 c1 e1
        exact KN _ _ (fa_evTn h7 e1)
    · rw [es]
      refine ih g (cc g p) a b n c s fr vs (by omega) hn hg (by omega) (by omega) (by omega) hf ?_ ?_
      · intro vc n1 c1' s1 e1 hn1 hn1' hs1
        have he : ¬ el g (cc g p) = 0 := by omega
        by_cases hz : vc = 0
        · have hev := fa_evHz h11 e1 hz
          rw [fa_Gz he hz, c1, ex]
          refine ih g (cy g p) a b n1 c1' s1 fr vs (by omega) hn1' hg (by omega) (by omega) (by omega) (by omega) ?_ ?_
          · intro vy n2 c2 s2 e2 hn2 hn2' hs2
            rw [fa_G0 y1 y2, ey]
            exact hH s2 g a b p fr vy vs n2 c2 (by omega) hg hp h11 (by omega) (by omega) (KS _ _ _ _ (hev.trans e2) (by omega) hn2' (by omega))
          · intro n2 c2 e2
            exact KN _ _ (hev.trans e2)
        · have hev := fa_evHx h11 e1 hz
          rw [fa_Gx he hz, ec]
          refine ih g (cx g p) a b n1 c1' s1 fr vs (by omega) hn1' hg (by omega) (by omega) (by omega) (by omega) ?_ ?_
          · intro vy n2 c2 s2 e2 hn2 hn2' hs2
            rw [fa_Gj x1 (by omega), x2]
            exact hH s2 g a b p fr vy vs n2 c2 (by omega) hg hp h11 (by omega) (by omega) (KS _ _ _ _ (hev.trans e2) (by omega) hn2' (by omega))
          · intro n2 c2 e2
            exact KN _ _ (hev.trans e2)
      · intro n1 c1' e1
        exact KN _ _ (fa_evHn h11 e1)
