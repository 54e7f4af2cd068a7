def xq_Fr (oF oA oB oP : Nat → Int32) : List (Nat × Int32 × Int32 × Nat) → Prop
  | [] => True
  | (g, a, b, p) :: fr => oF fr.length = nI g ∧ oA fr.length = a ∧ oB fr.length = b ∧ oP fr.length = nI p ∧ xq_Fr oF oA oB oP fr
def xq_Vs (V : Nat → Int32) : List Int32 → Prop
  | [] => True
  | v :: vs => V vs.length = v ∧ xq_Vs V vs
theorem xq_Vc {V V' : Nat → Int32} : ∀ vs : List Int32, (∀ i, i < vs.length → V' i = V i) → xq_Vs V vs → xq_Vs V' vs
  | [], _, _ => True.intro
  | v :: vs, h, hV => ⟨(h vs.length (Nat.lt_succ_self _)).trans hV.1, xq_Vc vs (fun i hi => h i (Nat.lt_succ_of_lt hi)) hV.2⟩
theorem xq_Vup {V : Nat → Int32} {vs : List Int32} {j : Nat} {x : Int32} (h : xq_Vs V vs) (hj : vs.length ≤ j) : xq_Vs (upd V j x) vs :=
  xq_Vc vs (fun i hi => pk_un (by omega)) h
theorem xq_Fc {oF oA oB oP oF' oA' oB' oP' : Nat → Int32} : ∀ fr : List (Nat × Int32 × Int32 × Nat), (∀ i, i < fr.length → oF' i = oF i ∧ oA' i = oA i ∧ oB' i = oB i ∧ oP' i = oP i) → xq_Fr oF oA oB oP fr → xq_Fr oF' oA' oB' oP' fr
  | [], _, _ => True.intro
  | (g, a, b, p) :: fr, h, ⟨h1, h2, h3, h4, h5⟩ =>
    have z := h fr.length (Nat.lt_succ_self _)
    ⟨z.1.trans h1, z.2.1.trans h2, z.2.2.1.trans h3, z.2.2.2.trans h4, xq_Fc fr (fun i hi => h i (Nat.lt_succ_of_lt hi)) h5⟩
def xq_R (A : Nat → Int32) (r : Nat → Nat → Nat) : Prop := ∀ g p, g < 5 → p < 14 → A (14 * g + p) = nI (r g p) ∧ r g p < 99
/-- the loop of a run goes well from step s on, with these calls under way and these values -/
def xq_L (post : Int32 → SX → Prop) (f_stacked f_made : Int32) (a_kind a_number a_elsePlace a_jumpPlace a_bodySize a_stack : Nat → Int32) (s : Nat) (fr : List (Nat × Int32 × Int32 × Nat)) (vs : List Int32) (n : Nat) (c : Nat → Int32) : Prop :=
  ∀ a_openFunction a_openFirst a_openSecond a_openPlace a_values a_entered : Nat → Int32, xq_Fr a_openFunction a_openFirst a_openSecond a_openPlace fr → xq_Vs a_values vs → (∀ g, g < 4 → a_entered g = c g) →
    ∃ N, wX_valueOfRun_14 post N (nI s) f_stacked f_made (nI fr.length) (nI vs.length) (nI n) (0) a_kind a_number a_elsePlace a_jumpPlace a_bodySize a_stack a_openFunction a_openFirst a_openSecond a_openPlace a_values a_entered
/-- a run has ended: tired (t = 1) or done (t = 0), with r -/
def xq_E (post : Int32 → SX → Prop) (f_stacked f_made : Int32) (a_kind a_number a_elsePlace a_jumpPlace a_bodySize a_stack : Nat → Int32) (r t : Int32) (n : Nat) (c : Nat → Int32) : Prop :=
  ∀ (f_open f_valueCount : Int32) (a_openFunction a_openFirst a_openSecond a_openPlace a_values a_entered : Nat → Int32), (∀ g, g < 4 → a_entered g = c g) → post r (f_stacked, f_made, f_open, f_valueCount, nI n, t, a_kind, a_number, a_elsePlace, a_jumpPlace, a_bodySize, a_stack, a_openFunction, a_openFirst, a_openSecond, a_openPlace, a_values, a_entered)
section
variable {post : Int32 → SX → Prop} {f_stacked f_made : Int32} {a_kind a_number a_elsePlace a_jumpPlace a_bodySize a_stack : Nat → Int32} {kd el ju : Nat → Nat → Nat} {sz : Nat → Nat}
theorem xq_Gx {s g : Nat} {a b : Int32} {p : Nat} {fr : List (Nat × Int32 × Int32 × Nat)} {v : Int32} {vs : List Int32} {n : Nat} {c : Nat → Int32} {a_openFunction a_openFirst a_openSecond a_openPlace a_values a_entered : Nat → Int32}
    (H : fa_G el ju (xq_L post f_stacked f_made a_kind a_number a_elsePlace a_jumpPlace a_bodySize a_stack) s g a b p fr v vs n c) (hFr : xq_Fr a_openFunction a_openFirst a_openSecond a_openPlace fr)
    (hF : a_openFunction fr.length = nI g) (hA : a_openFirst fr.length = a) (hB : a_openSecond fr.length = b) (hVs : xq_Vs a_values vs) (hv : a_values vs.length = v) (hc : ∀ g, g < 4 → a_entered g = c g) :
    ∃ N, wX_valueOfRun_14 post N (nI s) f_stacked f_made (nI (fr.length + 1)) (nI (if el g p = 0 then vs.length + 1 else vs.length)) (nI n) (0) a_kind a_number a_elsePlace a_jumpPlace a_bodySize a_stack a_openFunction a_openFirst a_openSecond (upd a_openPlace fr.length (nI (if el g p = 0 then (if ju g p = 0 then p + 1 else ju g p) else (if v = 0 then el g p else p + 1)))) a_values a_entered := by
  unfold fa_G at H
  have hfr : xq_Fr a_openFunction a_openFirst a_openSecond (upd a_openPlace fr.length (nI (if el g p = 0 then (if ju g p = 0 then p + 1 else ju g p) else (if v = 0 then el g p else p + 1)))) ((g, a, b, if el g p = 0 then (if ju g p = 0 then p + 1 else ju g p) else (if v = 0 then el g p else p + 1)) :: fr) :=
    ⟨hF, hA, hB, pk_us, xq_Fc fr (fun i hi => ⟨rfl, rfl, rfl, pk_un (by omega)⟩) hFr⟩
  have hvs : xq_Vs a_values (if el g p = 0 then v :: vs else vs) := by
    by_cases e0 : el g p = 0
    · rw [if_pos e0]; exact ⟨hv, hVs⟩
    · rw [if_neg e0]; exact hVs
  have h := H _ _ _ _ _ _ hfr hvs hc
  have e : (if el g p = 0 then v :: vs else vs).length = (if el g p = 0 then vs.length + 1 else vs.length) := by
    by_cases e0 : el g p = 0
    · rw [if_pos e0, if_pos e0]; rfl
    · rw [if_neg e0, if_neg e0]
  rw [e] at h
  exact h
theorem xq_rC (hK : xq_R a_kind kd) (hE : xq_R a_elsePlace el) (hJ : xq_R a_jumpPlace ju) (hz : ∀ g, g < 4 → a_bodySize g = nI (sz g) ∧ sz g ≤ 14) (s g : Nat) (a b : Int32) (p : Nat) (fr : List (Nat × Int32 × Int32 × Nat)) (vs : List Int32) (n : Nat) (c : Nat → Int32) (hs : s < 900) (hg : g < 4) (hp : p < sz g) (hk : kd g p = 8) (hv : vs.length < 840) (hf : fr.length < 60)
    (H : fa_G el ju (xq_L post f_stacked f_made a_kind a_number a_elsePlace a_jumpPlace a_bodySize a_stack) (s + 1) g a b p fr (a_number (14 * g + p)) vs n c) : xq_L post f_stacked f_made a_kind a_number a_elsePlace a_jumpPlace a_bodySize a_stack s ((g, a, b, p) :: fr) vs n c := by
  intro a_openFunction a_openFirst a_openSecond a_openPlace a_values a_entered hFr hV hc
  obtain ⟨f1, f2, f3, f4, hFr'⟩ := hFr
  have z := hz g hg
  have kk := (hK g p (by omega) (by omega)).1
  rw [hk] at kk
  obtain ⟨ee, ee'⟩ := hE g p (by omega) (by omega)
  obtain ⟨jj, jj'⟩ := hJ g p (by omega) (by omega)
  obtain ⟨N, hN⟩ := xq_Gx (a_values := upd a_values vs.length (a_number (14 * g + p))) H hFr' f1 f2 f3 (xq_Vup hV (Nat.le_refl _)) pk_us hc
  refine ⟨N + 1, ?_⟩
  refine br_f (nI_ge (b := 900) hs (by decide)) (br_f (nI_nle (n := fr.length + 1) (by omega) (by omega)) (br_t rfl ?_))
  refine xq_at_openFunction (fr.length) (nI_pred _) hf f1 ?_
  refine xq_at_openPlace (fr.length) (nI_pred _) hf f4 ?_
  refine nm_r (e' := nI (14 * g + p)) (xq_ix g p) ?_
  refine xq_at_kind (14 * g + p) rfl (by omega) kk ?_
  refine xq_at_bodySize g rfl hg z.1 ?_
  refine br_t (nI_lt hp (by omega)) (br_t (by decide) ?_)
  unfold wpX_workOutOther
  refine xq_at_kind (14 * g + p) rfl (by omega) kk ?_
  refine xq_at_number (14 * g + p) rfl (by omega) rfl ?_
  refine br_f (by decide) (br_f (by decide) ?_)
  refine br_f (by decide) ?_
  refine xq_pushValue vs.length hv ?_
  unfold wX_workOutOther_76
  refine xq_goOn fr.length g p (el g p) (ju g p) vs.length hf f1 f4 (by omega) ee jj ee' jj' hv pk_us ?_
  exact nm_r (nI_1 s) hN
theorem xq_rF (hK : xq_R a_kind kd) (hE : xq_R a_elsePlace el) (hJ : xq_R a_jumpPlace ju) (hz : ∀ g, g < 4 → a_bodySize g = nI (sz g) ∧ sz g ≤ 14) (s g : Nat) (a b : Int32) (p : Nat) (fr : List (Nat × Int32 × Int32 × Nat)) (vs : List Int32) (n : Nat) (c : Nat → Int32) (hs : s < 900) (hg : g < 4) (hp : p < sz g) (hk : kd g p = 9) (hv : vs.length < 840) (hf : fr.length < 60)
    (H : fa_G el ju (xq_L post f_stacked f_made a_kind a_number a_elsePlace a_jumpPlace a_bodySize a_stack) (s + 1) g a b p fr a vs n c) : xq_L post f_stacked f_made a_kind a_number a_elsePlace a_jumpPlace a_bodySize a_stack s ((g, a, b, p) :: fr) vs n c := by
  intro a_openFunction a_openFirst a_openSecond a_openPlace a_values a_entered hFr hV hc
  obtain ⟨f1, f2, f3, f4, hFr'⟩ := hFr
  have z := hz g hg
  have kk := (hK g p (by omega) (by omega)).1
  rw [hk] at kk
  obtain ⟨ee, ee'⟩ := hE g p (by omega) (by omega)
  obtain ⟨jj, jj'⟩ := hJ g p (by omega) (by omega)
  obtain ⟨N, hN⟩ := xq_Gx (a_values := upd a_values vs.length a) H hFr' f1 f2 f3 (xq_Vup hV (Nat.le_refl _)) pk_us hc
  refine ⟨N + 1, ?_⟩
  refine br_f (nI_ge (b := 900) hs (by decide)) (br_f (nI_nle (n := fr.length + 1) (by omega) (by omega)) (br_t rfl ?_))
  refine xq_at_openFunction (fr.length) (nI_pred _) hf f1 ?_
  refine xq_at_openPlace (fr.length) (nI_pred _) hf f4 ?_
  refine nm_r (e' := nI (14 * g + p)) (xq_ix g p) ?_
  refine xq_at_kind (14 * g + p) rfl (by omega) kk ?_
  refine xq_at_bodySize g rfl hg z.1 ?_
  refine br_t (nI_lt hp (by omega)) (br_t (by decide) ?_)
  unfold wpX_workOutOther
  refine xq_at_kind (14 * g + p) rfl (by omega) kk ?_
  refine xq_at_number (14 * g + p) rfl (by omega) rfl ?_
  refine br_t rfl ?_
  refine xq_at_openFirst fr.length (nI_pred _) hf f2 ?_
  refine br_f (by decide) ?_
  refine xq_pushValue vs.length hv ?_
  unfold wX_workOutOther_76
  refine xq_goOn fr.length g p (el g p) (ju g p) vs.length hf f1 f4 (by omega) ee jj ee' jj' hv pk_us ?_
  exact nm_r (nI_1 s) hN
theorem xq_rS (hK : xq_R a_kind kd) (hE : xq_R a_elsePlace el) (hJ : xq_R a_jumpPlace ju) (hz : ∀ g, g < 4 → a_bodySize g = nI (sz g) ∧ sz g ≤ 14) (s g : Nat) (a b : Int32) (p : Nat) (fr : List (Nat × Int32 × Int32 × Nat)) (vs : List Int32) (n : Nat) (c : Nat → Int32) (hs : s < 900) (hg : g < 4) (hp : p < sz g) (hk : kd g p = 10) (hv : vs.length < 840) (hf : fr.length < 60)
    (H : fa_G el ju (xq_L post f_stacked f_made a_kind a_number a_elsePlace a_jumpPlace a_bodySize a_stack) (s + 1) g a b p fr b vs n c) : xq_L post f_stacked f_made a_kind a_number a_elsePlace a_jumpPlace a_bodySize a_stack s ((g, a, b, p) :: fr) vs n c := by
  intro a_openFunction a_openFirst a_openSecond a_openPlace a_values a_entered hFr hV hc
  obtain ⟨f1, f2, f3, f4, hFr'⟩ := hFr
  have z := hz g hg
  have kk := (hK g p (by omega) (by omega)).1
  rw [hk] at kk
  obtain ⟨ee, ee'⟩ := hE g p (by omega) (by omega)
  obtain ⟨jj, jj'⟩ := hJ g p (by omega) (by omega)
  obtain ⟨N, hN⟩ := xq_Gx (a_values := upd a_values vs.length b) H hFr' f1 f2 f3 (xq_Vup hV (Nat.le_refl _)) pk_us hc
  refine ⟨N + 1, ?_⟩
  refine br_f (nI_ge (b := 900) hs (by decide)) (br_f (nI_nle (n := fr.length + 1) (by omega) (by omega)) (br_t rfl ?_))
  refine xq_at_openFunction (fr.length) (nI_pred _) hf f1 ?_
  refine xq_at_openPlace (fr.length) (nI_pred _) hf f4 ?_
  refine nm_r (e' := nI (14 * g + p)) (xq_ix g p) ?_
  refine xq_at_kind (14 * g + p) rfl (by omega) kk ?_
  refine xq_at_bodySize g rfl hg z.1 ?_
  refine br_t (nI_lt hp (by omega)) (br_t (by decide) ?_)
  unfold wpX_workOutOther
  refine xq_at_kind (14 * g + p) rfl (by omega) kk ?_
  refine xq_at_number (14 * g + p) rfl (by omega) rfl ?_
  refine br_f (by decide) (br_t rfl ?_)
  refine xq_at_openSecond fr.length (nI_pred _) hf f3 ?_
  refine br_f (by decide) ?_
  refine xq_pushValue vs.length hv ?_
  unfold wX_workOutOther_76
  refine xq_goOn fr.length g p (el g p) (ju g p) vs.length hf f1 f4 (by omega) ee jj ee' jj' hv pk_us ?_
  exact nm_r (nI_1 s) hN
theorem xq_rH (hK : xq_R a_kind kd) (hE : xq_R a_elsePlace el) (hJ : xq_R a_jumpPlace ju) (hz : ∀ g, g < 4 → a_bodySize g = nI (sz g) ∧ sz g ≤ 14) (s g : Nat) (a b : Int32) (p : Nat) (fr : List (Nat × Int32 × Int32 × Nat)) (v : Int32) (vs : List Int32) (n : Nat) (c : Nat → Int32) (hs : s < 900) (hg : g < 4) (hp : p < sz g) (hk : kd g p = 11) (hv : vs.length < 840) (hf : fr.length < 60)
    (H : fa_G el ju (xq_L post f_stacked f_made a_kind a_number a_elsePlace a_jumpPlace a_bodySize a_stack) (s + 1) g a b p fr v vs n c) : xq_L post f_stacked f_made a_kind a_number a_elsePlace a_jumpPlace a_bodySize a_stack s ((g, a, b, p) :: fr) (v :: vs) n c := by
  intro a_openFunction a_openFirst a_openSecond a_openPlace a_values a_entered hFr hV hc
  obtain ⟨f1, f2, f3, f4, hFr'⟩ := hFr
  obtain ⟨v1, hV'⟩ := hV
  have z := hz g hg
  have kk := (hK g p (by omega) (by omega)).1
  rw [hk] at kk
  obtain ⟨ee, ee'⟩ := hE g p (by omega) (by omega)
  obtain ⟨jj, jj'⟩ := hJ g p (by omega) (by omega)
  obtain ⟨N, hN⟩ := xq_Gx H hFr' f1 f2 f3 hV' v1 hc
  refine ⟨N + 1, ?_⟩
  refine br_f (nI_ge (b := 900) hs (by decide)) (br_f (nI_nle (n := fr.length + 1) (by omega) (by omega)) (br_t rfl ?_))
  refine xq_at_openFunction (fr.length) (nI_pred _) hf f1 ?_
  refine xq_at_openPlace (fr.length) (nI_pred _) hf f4 ?_
  refine nm_r (e' := nI (14 * g + p)) (xq_ix g p) ?_
  refine xq_at_kind (14 * g + p) rfl (by omega) kk ?_
  refine xq_at_bodySize g rfl hg z.1 ?_
  refine br_t (nI_lt hp (by omega)) (br_t (by decide) ?_)
  unfold wpX_workOutOther
  refine xq_at_kind (14 * g + p) rfl (by omega) kk ?_
  refine xq_at_number (14 * g + p) rfl (by omega) rfl ?_
  refine br_f (by decide) (br_f (by decide) ?_)
  refine br_t rfl ?_
  unfold wX_workOutOther_76
  refine xq_goOn fr.length g p (el g p) (ju g p) vs.length hf f1 f4 (by omega) ee jj ee' jj' hv v1 ?_
  exact nm_r (nI_1 s) hN
theorem xq_rT (hK : xq_R a_kind kd) (hE : xq_R a_elsePlace el) (hJ : xq_R a_jumpPlace ju) (hz : ∀ g, g < 4 → a_bodySize g = nI (sz g) ∧ sz g ≤ 14) (s g : Nat) (a b : Int32) (p : Nat) (fr : List (Nat × Int32 × Int32 × Nat)) (x y : Int32) (vs : List Int32) (n : Nat) (c : Nat → Int32) (hs : s < 900) (hg : g < 4) (hp : p < sz g) (hk : kd g p < 4) (hv : vs.length < 839) (hf : fr.length < 60)
    (H : fa_G el ju (xq_L post f_stacked f_made a_kind a_number a_elsePlace a_jumpPlace a_bodySize a_stack) (s + 1) g a b p fr (fa_comb (kd g p) x y) vs n c) : xq_L post f_stacked f_made a_kind a_number a_elsePlace a_jumpPlace a_bodySize a_stack s ((g, a, b, p) :: fr) (y :: x :: vs) n c := by
  intro a_openFunction a_openFirst a_openSecond a_openPlace a_values a_entered hFr hV hc
  have hFr0 := hFr
  obtain ⟨f1, f2, f3, f4, hFr'⟩ := hFr
  obtain ⟨v1, v2, hV'⟩ := hV
  have v1' : a_values (vs.length + 1) = y := v1
  have z := hz g hg
  obtain ⟨kk, kb⟩ := hK g p (by omega) (by omega)
  obtain ⟨ee, ee'⟩ := hE g p (by omega) (by omega)
  obtain ⟨jj, jj'⟩ := hJ g p (by omega) (by omega)
  obtain ⟨N, hN⟩ := xq_Gx (a_values := upd a_values vs.length (fa_comb (kd g p) x y)) H hFr' f1 f2 f3 (xq_Vup hV' (Nat.le_refl _)) pk_us hc
  refine ⟨N + 1, ?_⟩
  refine br_f (nI_ge (b := 900) hs (by decide)) (br_f (nI_nle (n := fr.length + 1) (by omega) (by omega)) (br_t rfl ?_))
  refine xq_at_openFunction (fr.length) (nI_pred _) hf f1 ?_
  refine xq_at_openPlace (fr.length) (nI_pred _) hf f4 ?_
  refine nm_r (e' := nI (14 * g + p)) (xq_ix g p) ?_
  refine xq_at_kind (14 * g + p) rfl (by omega) kk ?_
  refine xq_at_bodySize g rfl hg z.1 ?_
  refine br_t (nI_lt hp (by omega)) (br_f (nI_nlt (a := 7) (b := kd g p) (by omega) (by decide)) ?_)
  refine nm_r (e' := nI vs.length) (pk_sub (a := vs.length + 2) (b := 2) (by omega)) ?_
  refine xq_at_values vs.length rfl (by omega) v2 ?_
  refine xq_at_values (vs.length + 1) (nI_1 _) (by omega) v1' ?_
  refine br_t (nI_lt (b := 4) hk (by decide)) ?_
  refine xq_combined (kd g p) hk rfl ?_
  refine xq_pushValue vs.length (by omega) ?_
  refine xq_goOn fr.length g p (el g p) (ju g p) vs.length hf f1 f4 (by omega) ee jj ee' jj' (by omega) pk_us ?_
  exact nm_r (nI_1 s) hN
theorem xq_rK (hK : xq_R a_kind kd) (hE : xq_R a_elsePlace el) (hJ : xq_R a_jumpPlace ju) (hz : ∀ g, g < 4 → a_bodySize g = nI (sz g) ∧ sz g ≤ 14) (s g : Nat) (a b : Int32) (p : Nat) (fr : List (Nat × Int32 × Int32 × Nat)) (x y : Int32) (vs : List Int32) (n : Nat) (c : Nat → Int32) (hs : s < 900) (hg : g < 4) (hp : p < sz g) (hk : kd g p ≤ 7) (hk4 : ¬ kd g p < 4) (hn : n < 60) (hv : vs.length < 839) (hf' : fr.length + 1 ≤ n)
    (H : xq_L post f_stacked f_made a_kind a_number a_elsePlace a_jumpPlace a_bodySize a_stack (s + 1) ((kd g p - 4, x, y, 0) :: (g, a, b, p) :: fr) vs (n + 1) (upd c (kd g p - 4) (c (kd g p - 4) + 1))) : xq_L post f_stacked f_made a_kind a_number a_elsePlace a_jumpPlace a_bodySize a_stack s ((g, a, b, p) :: fr) (y :: x :: vs) n c := by
  have hf : fr.length < 60 := by omega
  intro a_openFunction a_openFirst a_openSecond a_openPlace a_values a_entered hFr hV hc
  have hFr0 := hFr
  obtain ⟨f1, f2, f3, f4, hFr'⟩ := hFr
  obtain ⟨v1, v2, hV'⟩ := hV
  have v1' : a_values (vs.length + 1) = y := v1
  have z := hz g hg
  obtain ⟨kk, kb⟩ := hK g p (by omega) (by omega)
  have hc' : ∀ h, h < 4 → upd a_entered (kd g p - 4) (a_entered (kd g p - 4) + 1) h = upd c (kd g p - 4) (c (kd g p - 4) + 1) h := by
    intro h hh
    by_cases e : h = kd g p - 4
    · rw [e, pk_us, pk_us, hc _ (by omega)]
    · rw [pk_un e, pk_un e, hc h hh]
  obtain ⟨N, hN⟩ := H (upd a_openFunction (fr.length + 1) (nI (kd g p - 4))) (upd a_openFirst (fr.length + 1) x) (upd a_openSecond (fr.length + 1) y) (upd a_openPlace (fr.length + 1) (nI 0)) a_values _ ⟨pk_us, pk_us, pk_us, pk_us, xq_Fc ((g, a, b, p) :: fr) (fun i hi => have h : i ≠ fr.length + 1 := Nat.ne_of_lt hi; ⟨pk_un h, pk_un h, pk_un h, pk_un h⟩) hFr0⟩ hV' hc'
  refine ⟨N + 1, ?_⟩
  refine br_f (nI_ge (b := 900) hs (by decide)) (br_f (nI_nle (n := fr.length + 1) (by omega) (by omega)) (br_t rfl ?_))
  refine xq_at_openFunction (fr.length) (nI_pred _) hf f1 ?_
  refine xq_at_openPlace (fr.length) (nI_pred _) hf f4 ?_
  refine nm_r (e' := nI (14 * g + p)) (xq_ix g p) ?_
  refine xq_at_kind (14 * g + p) rfl (by omega) kk ?_
  refine xq_at_bodySize g rfl hg z.1 ?_
  refine br_t (nI_lt hp (by omega)) (br_f (nI_nlt (a := 7) (b := kd g p) (by omega) (by decide)) ?_)
  refine nm_r (e' := nI vs.length) (pk_sub (a := vs.length + 2) (b := 2) (by omega)) ?_
  refine xq_at_values vs.length rfl (by omega) v2 ?_
  refine xq_at_values (vs.length + 1) (nI_1 _) (by omega) v1' ?_
  refine br_f (nI_nlt (b := 4) (by omega) (by omega)) ?_
  refine xq_enter n (fr.length + 1) (kd g p - 4) (pk_sub (b := 4) (by omega)) hn (by omega) (by omega) ?_
  exact nm_r (nI_1 s) hN
theorem xq_exit {r t : Int32} {n : Nat} {c : Nat → Int32} {x : Int32} {f_open f_valueCount : Int32} {a_openFunction a_openFirst a_openSecond a_openPlace a_values a_entered : Nat → Int32} (H : wX_valueOfRun_140 post f_stacked f_made f_open f_valueCount (nI n) (t) a_kind a_number a_elsePlace a_jumpPlace a_bodySize a_stack a_openFunction a_openFirst a_openSecond a_openPlace a_values a_entered) (h : f_open ≤ 0 ∨ ¬ t = 0) :
    wX_valueOfRun_14 post 1 x f_stacked f_made f_open f_valueCount (nI n) (t) a_kind a_number a_elsePlace a_jumpPlace a_bodySize a_stack a_openFunction a_openFirst a_openSecond a_openPlace a_values a_entered := by
  refine br_c (fun _ => H) (fun _ => ?_)
  refine br_c (fun _ => H) (fun h' => ?_)
  rcases h with h | h
  · exact absurd h h'
  · exact br_f h H
theorem xq_rX (hK : xq_R a_kind kd) (hE : xq_R a_elsePlace el) (hJ : xq_R a_jumpPlace ju) (hz : ∀ g, g < 4 → a_bodySize g = nI (sz g) ∧ sz g ≤ 14) (s g : Nat) (a b : Int32) (p : Nat) (fr : List (Nat × Int32 × Int32 × Nat)) (x y : Int32) (vs : List Int32) (n : Nat) (c : Nat → Int32) (hs : s < 900) (hg : g < 4) (hp : p < sz g) (hk : kd g p ≤ 7) (hk4 : ¬ kd g p < 4) (hn : n = 60) (hv : vs.length < 839) (hf : fr.length < 60)
    (H : xq_E post f_stacked f_made a_kind a_number a_elsePlace a_jumpPlace a_bodySize a_stack 0 1 n c) : xq_L post f_stacked f_made a_kind a_number a_elsePlace a_jumpPlace a_bodySize a_stack s ((g, a, b, p) :: fr) (y :: x :: vs) n c := by
  intro a_openFunction a_openFirst a_openSecond a_openPlace a_values a_entered hFr hV hc
  have hFr0 := hFr
  obtain ⟨f1, f2, f3, f4, hFr'⟩ := hFr
  obtain ⟨v1, v2, hV'⟩ := hV
  have v1' : a_values (vs.length + 1) = y := v1
  have z := hz g hg
  obtain ⟨kk, kb⟩ := hK g p (by omega) (by omega)
  subst hn
  refine ⟨2, ?_⟩
  refine br_f (nI_ge (b := 900) hs (by decide)) (br_f (nI_nle (n := fr.length + 1) (by omega) (by omega)) (br_t rfl ?_))
  refine xq_at_openFunction (fr.length) (nI_pred _) hf f1 ?_
  refine xq_at_openPlace (fr.length) (nI_pred _) hf f4 ?_
  refine nm_r (e' := nI (14 * g + p)) (xq_ix g p) ?_
  refine xq_at_kind (14 * g + p) rfl (by omega) kk ?_
  refine xq_at_bodySize g rfl hg z.1 ?_
  refine br_t (nI_lt hp (by omega)) (br_f (nI_nlt (a := 7) (b := kd g p) (by omega) (by decide)) ?_)
  refine nm_r (e' := nI vs.length) (pk_sub (a := vs.length + 2) (b := 2) (by omega)) ?_
  refine xq_at_values vs.length rfl (by omega) v2 ?_
  refine xq_at_values (vs.length + 1) (nI_1 _) (by omega) v1' ?_
  refine br_f (nI_nlt (b := 4) (by omega) (by omega)) ?_
  refine xq_enterT ?_
  refine nm_e ?_
  exact xq_exit (r := 0) (c := c) (br_f (by decide) (H _ _ _ _ _ _ _ _ hc)) (Or.inr (by decide))
theorem xq_rL (hK : xq_R a_kind kd) (hE : xq_R a_elsePlace el) (hJ : xq_R a_jumpPlace ju) (hz : ∀ g, g < 4 → a_bodySize g = nI (sz g) ∧ sz g ≤ 14) (s g : Nat) (a b : Int32) (p : Nat) (g' : Nat) (a' b' : Int32) (p' : Nat) (fr : List (Nat × Int32 × Int32 × Nat)) (v : Int32) (vs : List Int32) (n : Nat) (c : Nat → Int32) (hs : s < 900) (hg : g < 4) (hp : p = sz g) (hg' : g' < 4) (hp' : p' < sz g') (hv : vs.length < 840) (hf : fr.length < 59)
    (H : fa_G el ju (xq_L post f_stacked f_made a_kind a_number a_elsePlace a_jumpPlace a_bodySize a_stack) (s + 1) g' a' b' p' fr v vs n c) : xq_L post f_stacked f_made a_kind a_number a_elsePlace a_jumpPlace a_bodySize a_stack s ((g, a, b, p) :: (g', a', b', p') :: fr) (v :: vs) n c := by
  intro a_openFunction a_openFirst a_openSecond a_openPlace a_values a_entered hFr hV hc
  obtain ⟨f1, f2, f3, f4, e1, e2, e3, e4, hFr'⟩ := hFr
  have f1' : a_openFunction (fr.length + 1) = nI g := f1
  have f4' : a_openPlace (fr.length + 1) = nI p := f4
  obtain ⟨v1, hV'⟩ := hV
  have z := hz g hg
  have z' := hz g' hg'
  obtain ⟨ee, ee'⟩ := hE g' p' (by omega) (by omega)
  obtain ⟨jj, jj'⟩ := hJ g' p' (by omega) (by omega)
  obtain ⟨N, hN⟩ := xq_Gx H hFr' e1 e2 e3 hV' v1 hc
  refine ⟨N + 1, ?_⟩
  refine br_f (nI_ge (b := 900) hs (by decide)) (br_f (nI_nle (n := fr.length + 1 + 1) (by omega) (by omega)) (br_t rfl ?_))
  refine xq_at_openFunction (fr.length + 1) (nI_pred _) (by omega) f1' ?_
  refine xq_at_openPlace (fr.length + 1) (nI_pred _) (by omega) f4' ?_
  refine nm_r (e' := nI (14 * g + p)) (xq_ix g p) ?_
  refine xq_at_kind (14 * g + p) rfl (by omega) rfl ?_
  refine xq_at_bodySize g rfl hg z.1 ?_
  refine br_f (nI_nlt (by omega) (by omega)) ?_
  refine nm_r (e' := nI (fr.length + 1)) (nI_pred _) ?_
  refine br_f (nI_nle (by omega) (by omega)) ?_
  refine xq_goOn fr.length g' p' (el g' p') (ju g' p') vs.length (by omega) e1 e4 (by omega) ee jj ee' jj' hv v1 ?_
  exact nm_r (nI_1 s) hN
theorem xq_rE (hK : xq_R a_kind kd) (hE : xq_R a_elsePlace el) (hJ : xq_R a_jumpPlace ju) (hz : ∀ g, g < 4 → a_bodySize g = nI (sz g) ∧ sz g ≤ 14) (s g : Nat) (a b : Int32) (p : Nat) (v : Int32) (n : Nat) (c : Nat → Int32) (hs : s < 900) (hg : g < 4) (hp : p = sz g)
    (H : xq_E post f_stacked f_made a_kind a_number a_elsePlace a_jumpPlace a_bodySize a_stack v 0 n c) : xq_L post f_stacked f_made a_kind a_number a_elsePlace a_jumpPlace a_bodySize a_stack s [(g, a, b, p)] [v] n c := by
  intro a_openFunction a_openFirst a_openSecond a_openPlace a_values a_entered hFr hV hc
  obtain ⟨f1, f2, f3, f4, _⟩ := hFr
  have f1' : a_openFunction 0 = nI g := f1
  have f4' : a_openPlace 0 = nI p := f4
  have v1 : a_values 0 = v := hV.1
  have z := hz g hg
  refine ⟨2, ?_⟩
  refine br_f (nI_ge (b := 900) hs (by decide)) (br_f (nI_nle (n := 0 + 1) (by omega) (by omega)) (br_t rfl ?_))
  refine xq_at_openFunction (0) (nI_pred _) (by omega) f1' ?_
  refine xq_at_openPlace (0) (nI_pred _) (by omega) f4' ?_
  refine nm_r (e' := nI (14 * g + p)) (xq_ix g p) ?_
  refine xq_at_kind (14 * g + p) rfl (by omega) rfl ?_
  refine xq_at_bodySize g rfl hg z.1 ?_
  refine br_f (nI_nlt (by omega) (by omega)) ?_
  refine nm_r (e' := nI 0) (nI_pred 0) ?_
  refine br_t (by decide) ?_
  refine nm_e ?_
  exact xq_exit (r := v) (c := c) (br_t rfl (by rw [v1]; exact H _ _ _ _ _ _ _ _ hc)) (Or.inl (by decide))
end
