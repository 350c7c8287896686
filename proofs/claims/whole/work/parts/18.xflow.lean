theorem sg_eq {o : Nat} (b nm : Nat) (ho : o < 21) (h : is_sg o = true) : is_n1 o b nm = is_n1 o 0 nm ∧ is_gk o b = is_gk o 0 ∧ o ≠ 1 ∧ o ≠ 2 ∧ o ≠ 10 ∧ o ≠ 11 := by
  rcases is_21 ho with rfl | rfl | rfl | rfl | rfl | rfl | rfl | rfl | rfl | rfl | rfl | rfl | rfl | rfl | rfl | rfl | rfl | rfl | rfl | rfl | rfl
  all_goals first | exact absurd h (by decide) | exact ⟨rfl, rfl, by decide, by decide, by decide, by decide⟩
theorem sg_ok {o b nm h : Nat} {k : Nat → Nat} (ho : o < 21) (hs : is_sg o = true) : xk_ok o b nm k h ↔ xk_ok o 0 nm k h := by
  obtain ⟨e1, e2, e3, -⟩ := sg_eq b nm ho hs
  unfold xk_ok
  rw [e1]
  exact ⟨fun ⟨a, b, c, d, e⟩ => ⟨a, b, c, fun z => absurd z e3, e⟩, fun ⟨a, b, c, d, e⟩ => ⟨a, b, c, fun z => absurd z e3, e⟩⟩
theorem sg_t {o b h s : Nat} {k : Nat → Nat} (ho : o < 21) (hs : is_sg o = true) : xk_t o b k h s = xk_t o 0 k h s := by
  obtain ⟨e1, e2, e3, e4, -⟩ := sg_eq b 0 ho hs
  unfold xk_t
  simp only [e2, e3, e4, if_false, false_and]
theorem xk_h5 {o b nm h : Nat} {k : Nat → Nat} (h5 : h ≤ 5) (c1 : xk_ok o b nm k h) : wy_h o h ≤ 5 := by
  unfold wy_h
  obtain ⟨x1, x2, x3, x4, x5⟩ := c1
  cases hg : is_gv o
  · simp; omega
  · have := x5 hg; simp; omega
theorem xk_cg {o b nm h : Nat} {k k' : Nat → Nat} (hb : o = 1 → b < 4) (hkk : ∀ s, s < 4 + h → k' s = k s) (c1 : xk_ok o b nm k h) : xk_ok o b nm k' h ∧ ∀ s, s < 4 + wy_h o h → xk_t o b k' h s = xk_t o b k h s := by
  constructor
  · obtain ⟨x1, x2, x3, x4, x5⟩ := c1
    exact ⟨x1, fun z => by rw [hkk _ (by omega)]; exact x2 z, fun z => by rw [hkk _ (by omega)]; exact x3 z, fun z => by rw [hkk _ (by have := hb z; omega)]; exact x4 z, x5⟩
  · intro s hs
    unfold xk_t
    by_cases h4 : s < 4
    · rw [if_pos h4, if_pos h4]
      by_cases e2 : o = 2 ∧ s = b
      · rw [if_pos e2, if_pos e2]; exact hkk _ (by omega)
      · rw [if_neg e2, if_neg e2]; exact hkk _ (by omega)
    · rw [if_neg h4, if_neg h4]
      by_cases h2 : s < 4 + (h - is_tk o)
      · rw [if_pos h2, if_pos h2]; exact hkk _ (by omega)
      · rw [if_neg h2, if_neg h2]
        by_cases e2 : o = 1
        · rw [if_pos e2, if_pos e2]; exact hkk _ (by have := hb e2; omega)
        · rw [if_neg e2, if_neg e2]
theorem fo_copy (f_typeCount f_methodCount f_linked f_faultPlace f_active f_ticksLeft f_outcome f_latestResult : Int32) (a_typeAbove a_fieldSet a_methodType a_methodName a_codeLength a_bytes a_isStart a_heightAt a_kindsAt a_isWaiting a_globals a_objectType a_fieldValue a_isMarked a_frameMethod a_frameAt a_frameHeight a_slots : Nat → Int32) {x1 x2 : Int32} {to h : Nat} (hto : to < 256) (h5 : h ≤ 5) : ∀ d s, s + d = 4 + h → ∀ FK : Nat → Int32, (∀ s', s' < s → FK s' = a_kindsAt (to * 9 + s')) → ∃ FK' : Nat → Int32, (∀ s', s' < 4 + h → FK' s' = a_kindsAt (to * 9 + s')) ∧ ∀ post, wX_flowOn_27 post x1 x2 (nI to) f_typeCount f_methodCount f_linked f_faultPlace (nI h) f_active f_ticksLeft f_outcome f_latestResult 1 (nI (4 + h)) a_typeAbove a_fieldSet a_methodType a_methodName a_codeLength a_bytes a_isStart a_heightAt a_kindsAt a_isWaiting FK' a_globals a_objectType a_fieldValue a_isMarked a_frameMethod a_frameAt a_frameHeight a_slots → wX_flowOn_27 post x1 x2 (nI to) f_typeCount f_methodCount f_linked f_faultPlace (nI h) f_active f_ticksLeft f_outcome f_latestResult (d + 1) (nI s) a_typeAbove a_fieldSet a_methodType a_methodName a_codeLength a_bytes a_isStart a_heightAt a_kindsAt a_isWaiting FK a_globals a_objectType a_fieldValue a_isMarked a_frameMethod a_frameAt a_frameHeight a_slots := by
  intro d
  induction d with
  | zero =>
    intro s hs FK hF
    cases (show s = 4 + h by omega)
    exact ⟨FK, hF, fun post J => J⟩
  | succ d ih =>
    intro s hs FK hF
    obtain ⟨FK', c1, c2⟩ := ih (s + 1) (by omega) (upd FK s (a_kindsAt (to * 9 + s))) (fun s' h1 => by
      by_cases e : s' = s
      · subst e; exact pk_us
      · rw [pk_un e]; exact hF s' (by omega))
    refine ⟨FK', c1, fun post J => ?_⟩
    have := c2 post J
    unfold wX_flowOn_27
    simp (disch := omega) only [nI_clamp, gm_clL, gm_in, gm_inL, gm_ml, gm_al, gm_la, gm_sl, nI_add, pk_mul, gm_eqL, gm_leL, gm_ltL, gm_Lle, gm_Llt, gm_eq, gm_le, gm_lt, gm_m1, forall_eq, true_and, Nat.not_lt_zero, Nat.add_sub_cancel, gm_z2, gm_z3, gm_z9, gm_z16, gm_z18, gm_z32, gm_z36, gm_z64, gm_z1152, not_true_eq_false, not_false_eq_true, false_implies, true_implies, and_true, implies_true]
    exact ⟨fun z => absurd z (by omega), fun _ => this⟩
theorem ar1 (f_typeCount f_methodCount f_linked f_faultPlace f_active f_ticksLeft f_outcome f_latestResult : Int32) (a_typeAbove a_fieldSet a_methodType a_methodName a_codeLength a_bytes a_isStart a_heightAt a_kindsAt a_isWaiting a_flowKinds a_globals a_objectType a_fieldValue a_isMarked a_frameMethod a_frameAt a_frameHeight a_slots : Nat → Int32) {m L nm e tc p' h' : Nat} {D : Nat → Nat} {S : Nat → Prop} {f : Nat → Nat} (F : fo_OK tc L D S) (I : XI m L nm D S e a_heightAt a_kindsAt a_isWaiting) (hm : m < 8) (eL : a_codeLength m = nI L) (h5 : h' ≤ 5) (hp : p' < 1000) (hf : ∀ s, s < 4 + h' → a_flowKinds s = nI (f s) ∧ 0 < f s ∧ f s < 8)
    (hS : p' < L → S p') (hbad : L ≤ p' → WBad D L nm) (hw : ¬ WBad D L nm → p' < L → xw D L nm p' h' f) :
    (WBad D L nm ∧ ∀ post : Int32 → SX → Prop, post 0 (f_typeCount, f_methodCount, f_linked, f_faultPlace, nI h', f_active, f_ticksLeft, f_outcome, f_latestResult, a_typeAbove, a_fieldSet, a_methodType, a_methodName, a_codeLength, a_bytes, a_isStart, a_heightAt, a_kindsAt, a_isWaiting, a_flowKinds, a_globals, a_objectType, a_fieldValue, a_isMarked, a_frameMethod, a_frameAt, a_frameHeight, a_slots) → wpX_arrive post (f_typeCount, f_methodCount, f_linked, f_faultPlace, nI h', f_active, f_ticksLeft, f_outcome, f_latestResult, a_typeAbove, a_fieldSet, a_methodType, a_methodName, a_codeLength, a_bytes, a_isStart, a_heightAt, a_kindsAt, a_isWaiting, a_flowKinds, a_globals, a_objectType, a_fieldValue, a_isMarked, a_frameMethod, a_frameAt, a_frameHeight, a_slots) (nI m) (nI p')) ∨
    (p' < L ∧ ∃ H' K' W', XI m L nm D S e H' K' W' ∧ XMon m a_heightAt a_kindsAt H' K' ∧ (H' (m * 32 + p') = nI h' ∧ ∀ s, s < 4 + h' → kd_sub (f s) (kk m K' p' s)) ∧ XRow m a_heightAt a_kindsAt a_isWaiting K' W' ∧ XGrow m a_heightAt a_kindsAt a_isWaiting H' K' W' ∧ XFr m a_heightAt a_kindsAt H' K' ∧
      ∀ post : Int32 → SX → Prop, post 1 (f_typeCount, f_methodCount, f_linked, f_faultPlace, nI h', f_active, f_ticksLeft, f_outcome, f_latestResult, a_typeAbove, a_fieldSet, a_methodType, a_methodName, a_codeLength, a_bytes, a_isStart, H', K', W', a_flowKinds, a_globals, a_objectType, a_fieldValue, a_isMarked, a_frameMethod, a_frameAt, a_frameHeight, a_slots) → wpX_arrive post (f_typeCount, f_methodCount, f_linked, f_faultPlace, nI h', f_active, f_ticksLeft, f_outcome, f_latestResult, a_typeAbove, a_fieldSet, a_methodType, a_methodName, a_codeLength, a_bytes, a_isStart, a_heightAt, a_kindsAt, a_isWaiting, a_flowKinds, a_globals, a_objectType, a_fieldValue, a_isMarked, a_frameMethod, a_frameAt, a_frameHeight, a_slots) (nI m) (nI p')) := by
  have hL := F.2.1
  obtain ⟨w1, w2, w3⟩ := ar_x f_typeCount f_methodCount f_linked f_faultPlace f_active f_ticksLeft f_outcome f_latestResult a_typeAbove a_fieldSet a_methodType a_methodName a_codeLength a_bytes a_isStart a_heightAt a_kindsAt a_isWaiting a_flowKinds a_globals a_objectType a_fieldValue a_isMarked a_frameMethod a_frameAt a_frameHeight a_slots (p' := p') hm hL eL h5 hp hf I.1
  by_cases hpL : p' < L
  · rcases I.2.1 p' (by omega) with ⟨e0, -⟩ | ⟨h0, h05, e0⟩
    · obtain ⟨H', K', W', A, J⟩ := w3 hpL (Or.inl e0)
      obtain ⟨x1, x2, x3, x4, x5, x6⟩ := ar_XI F I A hpL h5 (hS hpL) (fun s hs => (hf s hs).2) (fun nb => hw nb hpL)
      exact Or.inr ⟨hpL, H', K', W', x1, x2, x3, x4, x5, x6, J⟩
    · by_cases e : h0 = h'
      · subst e
        obtain ⟨H', K', W', A, J⟩ := w3 hpL (Or.inr e0)
        obtain ⟨x1, x2, x3, x4, x5, x6⟩ := ar_XI F I A hpL h5 (hS hpL) (fun s hs => (hf s hs).2) (fun nb => hw nb hpL)
        exact Or.inr ⟨hpL, H', K', W', x1, x2, x3, x4, x5, x6, J⟩
      · refine Or.inl ⟨Classical.byContradiction fun nb => nb ?_, w2 hpL h0 h05 e0 e⟩
        obtain ⟨⟨st, a1, a2⟩, -⟩ := I.2.2.2.1 nb p' hpL h0 h05 e0
        obtain ⟨⟨st', b1, b2⟩, -⟩ := hw nb hpL
        exact ⟨st, h0, a1, Or.inr (Or.inr ⟨st', h', b1, by rw [a2, b2], fun z => e z.symm⟩)⟩
  · exact Or.inl ⟨hbad (by omega), w1 (by omega)⟩
theorem XI_close {m L nm e : Nat} {D : Nat → Nat} {S : Nat → Prop} {H K W : Nat → Int32} (I : XI m L nm D S e H K W) (he : e < L → W (m * 32 + e) = 0 → ∀ h, h ≤ 5 → H (m * 32 + e) = nI h → xc m L nm D H K e h) : XI m L nm D S 99 H K W := by
  obtain ⟨i1, i2, i3, i4, i5⟩ := I
  refine ⟨i1, i2, i3, i4, fun p hp h hh eq hw0 _ => ?_⟩
  by_cases e2 : p = e
  · subst e2; exact he hp hw0 h hh eq
  · exact i5 p hp h hh eq hw0 e2
theorem XI_open {m L nm p : Nat} {D : Nat → Nat} {S : Nat → Prop} {H K W : Nat → Int32} (hL : L ≤ 32) (I : XI m L nm D S 99 H K W) : XI m L nm D S p H K (upd W (m * 32 + p) 0) := by
  obtain ⟨i1, i2, i3, i4, i5⟩ := I
  refine ⟨i1, fun q hq => (i2 q hq).imp (fun z => ⟨z.1, by by_cases e : q = p; subst e; exact pk_us; rw [pk_un (by omega)]; exact z.2⟩) id, i3, i4, fun q hq h hh eq hw0 hne => ?_⟩
  rw [pk_un (by omega)] at hw0
  exact i5 q hq h hh eq hw0 (by omega)
/-- the ways out of p -/
theorem xw_next {m L nm tc p h p' : Nat} {D : Nat → Nat} {S : Nat → Prop} {k : Nat → Nat} (F : fo_OK tc L D S) (hp : p < L) (hS : S p) (h5 : h ≤ 5) (nb : ¬ WBad D L nm) (w : xw D L nm p h k) (hx : xk_ok (D p) (D (p + 1)) nm k h) (hs : is_su (D p) (D (p + 1)) p p') (hp' : p' < L) : xw D L nm p' (wy_h (D p) h) (xk_t (D p) (D (p + 1)) k h) := by
  have hb := (fo_b4 F hp hS).1
  have ho : D p < 21 := (F.2.2.2 p hp hS).1
  have all : ∀ st, Way D L nm st h → wy_p st = p → wy_ok (D p) (D (p + 1)) nm st h := by
    intro st a1 a2
    refine Classical.byContradiction fun z => nb ⟨st, h, a1, Or.inl ?_⟩
    rw [a2]; exact z
  have step : ∀ st, Way D L nm st h → wy_p st = p → Way D L nm (wy_nx (D p) (D (p + 1)) st h p') (wy_h (D p) h) ∧ wy_p (wy_nx (D p) (D (p + 1)) st h p') = p' := by
    intro st a1 a2
    have hok := all st a1 a2
    refine ⟨?_, (wy_nxD hb hok h5).1⟩
    have := way_s (p' := p') a1 (by rw [a2]; exact hok) (by rw [a2]; exact hs) hp'
    rw [a2] at this
    exact this
  obtain ⟨⟨st, a1, a2⟩, w2⟩ := w
  refine ⟨⟨_, step st a1 a2⟩, fun s hs2 c hc hk => ?_⟩
  rcases xk_C (p' := p') ho hb h5 hx hs2 hc hk with ⟨s0, b1, b2, b3⟩ | b
  · obtain ⟨st0, d1, d2, d3⟩ := w2 s0 b1 c hc b2
    obtain ⟨f1, f2⟩ := step st0 d1 d2
    exact ⟨_, f1, f2, b3 st0 (all st0 d1 d2) d3⟩
  · obtain ⟨f1, f2⟩ := step st a1 a2
    exact ⟨_, f1, f2, b st (all st a1 a2)⟩
theorem xw_fail {L nm tc p h : Nat} {D : Nat → Nat} {S : Nat → Prop} {k : Nat → Nat} (F : fo_OK tc L D S) (hp : p < L) (hS : S p) (w : ¬ WBad D L nm → xw D L nm p h k) (hx : ¬ xk_ok (D p) (D (p + 1)) nm k h) : WBad D L nm := by
  refine Classical.byContradiction fun nb => ?_
  obtain ⟨⟨st, a1, a2⟩, w2⟩ := w nb
  rcases xk_B (fo_b4 F hp hS).1 hx with ⟨s, c, b1, b2, b3, b4⟩ | b
  · obtain ⟨st0, d1, d2, d3⟩ := w2 s b1 c b2 b3
    exact nb ⟨st0, h, d1, Or.inl (by rw [d2]; exact b4 st0 d3)⟩
  · exact nb ⟨st, h, a1, Or.inl (by rw [a2]; exact b st)⟩
