section
variable {f_stacked f_made f_open f_valueCount f_enteredInAll f_tired : Int32} {a_kind a_number a_elsePlace a_jumpPlace a_bodySize a_stack a_openFunction a_openFirst a_openSecond a_openPlace a_values a_entered : Nat → Int32} {post : Int32 → SX → Prop} {kd el ju st cc cx cy : Nat → Nat → Nat} {sz : Nat → Nat}
theorem xq_run (hK : xq_R a_kind kd) (hE : xq_R a_elsePlace el) (hJ : xq_R a_jumpPlace ju) (hz : ∀ g, g < 4 → a_bodySize g = nI (sz g) ∧ sz g ≤ 14) (hW : ∀ g, g < 4 → fa_Bd (kd g) (st g) (el g) (ju g) (cc g) (cx g) (cy g) (sz g)) (f : Nat) (hf : f < 4) (a b : Int32)
    (HS : ∀ (v : Int32) (n : Nat) (c : Nat → Int32), fa_ev kd (fun g p => a_number (14 * g + p)) cc cx cy sz 901 f (sz f - 1) a b 1 (upd (fun _ => 0) f 1) = (some v, n, c) → xq_E post f_stacked f_made a_kind a_number a_elsePlace a_jumpPlace a_bodySize a_stack v 0 n c)
    (HN : ∀ (n : Nat) (c : Nat → Int32), fa_ev kd (fun g p => a_number (14 * g + p)) cc cx cy sz 901 f (sz f - 1) a b 1 (upd (fun _ => 0) f 1) = (none, n, c) → xq_E post f_stacked f_made a_kind a_number a_elsePlace a_jumpPlace a_bodySize a_stack 0 1 n c) : wpX_valueOfRun post (f_stacked, f_made, f_open, f_valueCount, f_enteredInAll, f_tired, a_kind, a_number, a_elsePlace, a_jumpPlace, a_bodySize, a_stack, a_openFunction, a_openFirst, a_openSecond, a_openPlace, a_values, a_entered) (nI f) a b := by
  unfold wpX_valueOfRun
  refine xq_startRun ?_
  refine xq_enter 0 0 f rfl (by decide) (by decide) hf ?_
  obtain ⟨w0, w14, ws, we, wj, _⟩ := hW f hf
  have h := fa_sim kd (fun g p => a_number (14 * g + p)) cc cx cy sz st el ju (xq_L post f_stacked f_made a_kind a_number a_elsePlace a_jumpPlace a_bodySize a_stack) (fun n c => xq_E post f_stacked f_made a_kind a_number a_elsePlace a_jumpPlace a_bodySize a_stack 0 1 n c) hW
    (xq_rC hK hE hJ hz) (xq_rF hK hE hJ hz) (xq_rS hK hE hJ hz) (xq_rH hK hE hJ hz) (xq_rT hK hE hJ hz) (xq_rK hK hE hJ hz) (xq_rX hK hE hJ hz) (xq_rL hK hE hJ hz)
    901 f (sz f - 1) a b 1 (upd (fun _ => 0) f 1) 0 [] [] (by omega) (by omega) hf (by omega) (by omega) (Nat.zero_le _) (Nat.le_refl 1)
    (fun v n' c' s' e hn hn' hs' => by
      rw [fa_G0 we wj]
      exact xq_rE hK hE hJ hz s' f a b (sz f - 1 + 1) v n' c' (by omega) hf (by omega) (HS v n' c' e)) HN
  rw [ws] at h
  refine h _ _ _ _ _ _ ⟨pk_us, pk_us, pk_us, pk_us, True.intro⟩ True.intro (fun g hg => ?_)
  by_cases e : g = f
  · rw [e, pk_us, pk_us, fa_z4e _ f hf]; rfl
  · rw [pk_un e, pk_un e, fa_z4e _ g hg]
end
set_option maxHeartbeats 1000000 in
theorem fa_ysim (kd : Nat → Nat → Nat) (nm : Nat → Nat → Int32) (cc cx cy : Nat → Nat → Nat) (sz : Nat → Nat) (st el ju : Nat → Nat → Nat)
    (M : List (Nat × Nat × Nat) → List Int32 → Nat → (Nat → Int32) → (Nat → Int32) → (Nat → Int32) → Prop) (T : Nat → (Nat → Int32) → Prop)
    (hW : ∀ g, g < 4 → fa_Bd (kd g) (st g) (el g) (ju g) (cc g) (cx g) (cy g) (sz g))
    (yC : ∀ (g p i : Nat) (ws : List (Nat × Nat × Nat)) (vs : List Int32) (n : Nat) (A B c : Nat → Int32), g < 4 → p < sz g → i < n → n ≤ 60 → ws.length < 400 → vs.length < 400 → kd g p = 8 → M ws (nm g p :: vs) n A B c → M ((14 * g + p, 0, i) :: ws) vs n A B c)
    (yF : ∀ (g p i : Nat) (ws : List (Nat × Nat × Nat)) (vs : List Int32) (n : Nat) (A B c : Nat → Int32), g < 4 → p < sz g → i < n → n ≤ 60 → ws.length < 400 → vs.length < 400 → kd g p = 9 → M ws (A i :: vs) n A B c → M ((14 * g + p, 0, i) :: ws) vs n A B c)
    (yS : ∀ (g p i : Nat) (ws : List (Nat × Nat × Nat)) (vs : List Int32) (n : Nat) (A B c : Nat → Int32), g < 4 → p < sz g → i < n → n ≤ 60 → ws.length < 400 → vs.length < 400 → kd g p = 10 → M ws (B i :: vs) n A B c → M ((14 * g + p, 0, i) :: ws) vs n A B c)
    (yT : ∀ (g p i : Nat) (ws : List (Nat × Nat × Nat)) (vs : List Int32) (n : Nat) (A B c : Nat → Int32), g < 4 → p < sz g → i < n → n ≤ 60 → ws.length < 400 → vs.length < 400 → kd g p ≤ 7 → M ((14 * g + cx g p, 0, i) :: (14 * g + p, 1, i) :: ws) vs n A B c → M ((14 * g + p, 0, i) :: ws) vs n A B c)
    (yH : ∀ (g p i : Nat) (ws : List (Nat × Nat × Nat)) (vs : List Int32) (n : Nat) (A B c : Nat → Int32), g < 4 → p < sz g → i < n → n ≤ 60 → ws.length < 400 → vs.length < 400 → kd g p = 11 → M ((14 * g + cc g p, 0, i) :: (14 * g + p, 1, i) :: ws) vs n A B c → M ((14 * g + p, 0, i) :: ws) vs n A B c)
    (yU : ∀ (g p i : Nat) (ws : List (Nat × Nat × Nat)) (vs : List Int32) (n : Nat) (A B c : Nat → Int32), g < 4 → p < sz g → i < n → n ≤ 60 → ws.length < 400 → vs.length < 400 → kd g p ≤ 7 → M ((14 * g + cy g p, 0, i) :: (14 * g + p, 2, i) :: ws) vs n A B c → M ((14 * g + p, 1, i) :: ws) vs n A B c)
    (yO : ∀ (g p i : Nat) (ws : List (Nat × Nat × Nat)) (vs : List Int32) (n : Nat) (A B c : Nat → Int32) (x y : Int32), g < 4 → p < sz g → i < n → n ≤ 60 → ws.length < 400 → vs.length < 400 → kd g p < 4 → M ws (fa_comb (kd g p) x y :: vs) n A B c → M ((14 * g + p, 2, i) :: ws) (y :: x :: vs) n A B c)
    (yK : ∀ (g p i : Nat) (ws : List (Nat × Nat × Nat)) (vs : List Int32) (n : Nat) (A B c : Nat → Int32) (x y : Int32), g < 4 → p < sz g → i < n → n ≤ 60 → ws.length < 400 → vs.length < 400 → kd g p ≤ 7 → ¬ kd g p < 4 → n < 60 → M ((14 * (kd g p - 4) + (sz (kd g p - 4) - 1), 0, n) :: ws) vs (n + 1) (upd A n x) (upd B n y) (upd c (kd g p - 4) (c (kd g p - 4) + 1)) → M ((14 * g + p, 2, i) :: ws) (y :: x :: vs) n A B c)
    (yX : ∀ (g p i : Nat) (ws : List (Nat × Nat × Nat)) (vs : List Int32) (n : Nat) (A B c : Nat → Int32) (x y : Int32), g < 4 → p < sz g → i < n → n ≤ 60 → ws.length < 400 → vs.length < 400 → kd g p ≤ 7 → ¬ kd g p < 4 → n = 60 → T n c → M ((14 * g + p, 2, i) :: ws) (y :: x :: vs) n A B c)
    (yI : ∀ (g p i : Nat) (ws : List (Nat × Nat × Nat)) (vs : List Int32) (n : Nat) (A B c : Nat → Int32) (v : Int32), g < 4 → p < sz g → i < n → n ≤ 60 → ws.length < 400 → vs.length < 400 → kd g p = 11 → M ((14 * g + (if v = 0 then cy g p else cx g p), 0, i) :: ws) vs n A B c → M ((14 * g + p, 1, i) :: ws) (v :: vs) n A B c) :
    ∀ (F g p i : Nat) (a b : Int32) (n : Nat) (A B c : Nat → Int32) (ws : List (Nat × Nat × Nat)) (vs : List Int32) (d k : Nat),
      (60 - n) * 15 + p + 1 ≤ F → n ≤ 60 → g < 4 → p < sz g → i < n → A i = a → B i = b → ws.length ≤ 5 * d + k → vs.length ≤ 5 * d + k → 2 * k + (p + 1 - st g p) ≤ 14 → d + 1 ≤ n →
      (∀ (v : Int32) (n' : Nat) (A' B' c' : Nat → Int32), fa_ev kd nm cc cx cy sz F g p a b n c = (some v, n', c') → n ≤ n' → n' ≤ 60 → (∀ j, j < n → A' j = A j ∧ B' j = B j) → M ws (v :: vs) n' A' B' c') →
      (∀ (n' : Nat) (c' : Nat → Int32), fa_ev kd nm cc cx cy sz F g p a b n c = (none, n', c') → T n' c') →
      M ((14 * g + p, 0, i) :: ws) vs n A B c := by
  intro F
  induction F with
  | zero => intro g p i a b n A B c ws vs d k h; omega
  | succ F ih =>
    intro g p i a b n A B c ws vs d k hF' hn hg hp hi hA hB hw hv hk hd KS KN
    obtain ⟨z0, z14, zs, ze, zj, hLC⟩ := hW g hg
    have lw : ws.length < 400 := by omega
    have lv : vs.length < 400 := by omega
    rcases hLC p hp with ⟨h8, h10, e⟩ | ⟨h7, ey, ex, es, lx, ly, x1, x2, y1, y2⟩ | ⟨h11, ey, ex, ec, es, lc, lx, ly, c1, x1, x2, y1, y2⟩
    · by_cases k8 : kd g p = 8
      · exact yC g p i ws vs n A B c hg hp hi hn lw lv k8 (KS _ _ _ _ _ (fa_ev8 k8) (Nat.le_refl _) hn (fun _ _ => ⟨rfl, rfl⟩))
      by_cases k9 : kd g p = 9
      · exact yF g p i ws vs n A B c hg hp hi hn lw lv k9 (by rw [hA]; exact KS _ _ _ _ _ (fa_ev9 k9) (Nat.le_refl _) hn (fun _ _ => ⟨rfl, rfl⟩))
      have k10 : kd g p = 10 := by omega
      exact yS g p i ws vs n A B c hg hp hi hn lw lv k10 (by rw [hB]; exact KS _ _ _ _ _ (fa_ev10 k10) (Nat.le_refl _) hn (fun _ _ => ⟨rfl, rfl⟩))
    · refine yT g p i ws vs n A B c hg hp hi hn lw lv h7 ?_
      refine ih g (cx g p) i a b n A B c _ vs d (k + 1) (by omega) hn hg (by omega) hi hA hB (by rw [List.length_cons]; omega) (by omega) (by omega) hd ?_ ?_
      · intro vx n1 A1 B1 c1 e1 hn1 hn1' hAB1
        obtain ⟨a1, b1⟩ := hAB1 i hi
        refine yU g p i ws (vx :: vs) n1 A1 B1 c1 hg hp (by omega) hn1' lw (by rw [List.length_cons]; omega) h7 ?_
        refine ih g (cy g p) i a b n1 A1 B1 c1 _ (vx :: vs) d (k + 1) (by omega) hn1' hg (by omega) (by omega) (a1.trans hA) (b1.trans hB) (by rw [List.length_cons]; omega) (by rw [List.length_cons]; omega) (by omega) (by omega) ?_ ?_
        · intro vy n2 A2 B2 c2 e2 hn2 hn2' hAB2
          have hAB : ∀ j, j < n → A2 j = A j ∧ B2 j = B j := fun j hj => ⟨(hAB2 j (by omega)).1.trans (hAB1 j hj).1, (hAB2 j (by omega)).2.trans (hAB1 j hj).2⟩
          by_cases k4 : kd g p < 4
          · exact yO g p i ws vs n2 A2 B2 c2 vx vy hg hp (by omega) hn2' lw lv k4 (KS _ _ _ _ _ (fa_evTo k4 e1 e2) (by omega) hn2' hAB)
          by_cases h60 : 60 ≤ n2
          · exact yX g p i ws vs n2 A2 B2 c2 vx vy hg hp (by omega) hn2' lw lv h7 k4 (by omega) (KN _ _ (fa_evTt h7 k4 h60 e1 e2))
          have hev := fa_evTc h7 k4 h60 e1 e2
          have hg' : kd g p - 4 < 4 := by omega
          obtain ⟨w0, w14, ws', we, wj, _⟩ := hW (kd g p - 4) hg'
          refine yK g p i ws vs n2 A2 B2 c2 vx vy hg hp (by omega) hn2' lw lv h7 k4 (by omega) ?_
          refine ih (kd g p - 4) (sz (kd g p - 4) - 1) n2 vx vy (n2 + 1) _ _ _ ws vs (d + 1) 0 (by omega) (by omega) hg' (by omega) (by omega) pk_us pk_us (by omega) (by omega) (by omega) (by omega) ?_ ?_
          · intro v n3 A3 B3 c3 e3 hn3 hn3' hAB3
            refine KS _ _ _ _ _ (hev.trans e3) (by omega) hn3' (fun j hj => ?_)
            obtain ⟨q1, q2⟩ := hAB3 j (by omega)
            rw [pk_un (by omega)] at q1 q2
            exact ⟨q1.trans (hAB j hj).1, q2.trans (hAB j hj).2⟩
          · intro n3 c3 e3
            exact KN _ _ (hev.trans e3)
        · intro n2 c2 e2
          exact KN _ _ (fa_evTm h7 e1 e2)
      · intro n1 c1 e1
        exact KN _ _ (fa_evTn h7 e1)
    · refine yH g p i ws vs n A B c hg hp hi hn lw lv h11 ?_
      refine ih g (cc g p) i a b n A B c _ vs d (k + 1) (by omega) hn hg (by omega) hi hA hB (by rw [List.length_cons]; omega) (by omega) (by omega) hd ?_ ?_
      · intro vc n1 A1 B1 c1' e1 hn1 hn1' hAB1
        obtain ⟨a1, b1⟩ := hAB1 i hi
        refine yI g p i ws vs n1 A1 B1 c1' vc hg hp (by omega) hn1' lw lv h11 ?_
        by_cases hz : vc = 0
        · have hev := fa_evHz h11 e1 hz
          rw [if_pos hz]
          refine ih g (cy g p) i a b n1 A1 B1 c1' ws vs d k (by omega) hn1' hg (by omega) (by omega) (a1.trans hA) (b1.trans hB) hw hv (by omega) (by omega) ?_ ?_
          · intro vy n2 A2 B2 c2 e2 hn2 hn2' hAB2
            exact KS _ _ _ _ _ (hev.trans e2) (by omega) hn2' (fun j hj => ⟨(hAB2 j (by omega)).1.trans (hAB1 j hj).1, (hAB2 j (by omega)).2.trans (hAB1 j hj).2⟩)
          · intro n2 c2 e2
            exact KN _ _ (hev.trans e2)
        · have hev := fa_evHx h11 e1 hz
          rw [if_neg hz]
          refine ih g (cx g p) i a b n1 A1 B1 c1' ws vs d k (by omega) hn1' hg (by omega) (by omega) (a1.trans hA) (b1.trans hB) hw hv (by omega) (by omega) ?_ ?_
          · intro vy n2 A2 B2 c2 e2 hn2 hn2' hAB2
            exact KS _ _ _ _ _ (hev.trans e2) (by omega) hn2' (fun j hj => ⟨(hAB2 j (by omega)).1.trans (hAB1 j hj).1, (hAB2 j (by omega)).2.trans (hAB1 j hj).2⟩)
          · intro n2 c2 e2
            exact KN _ _ (hev.trans e2)
      · intro n1 c1' e1
        exact KN _ _ (fa_evHn h11 e1)
