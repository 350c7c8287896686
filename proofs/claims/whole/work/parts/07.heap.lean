/-! ===== iteration, marks ===== -/
def b01 (b : Bool) : Int32 := if b = true then 1 else 0
theorem b01_0 {b : Bool} : (b01 b = 0) = (b = false) := by cases b <;> simp [b01]
def itr {σ : Type} (g : Nat → σ → σ) : Nat → Nat → σ → σ
  | 0, _, s => s
  | d + 1, j, s => itr g d (j + 1) (g j s)
theorem itr_s {σ : Type} (g : Nat → σ → σ) (d j : Nat) (s : σ) : itr g (d + 1) j s = itr g d (j + 1) (g j s) := rfl
theorem itr_add {σ : Type} (g : Nat → σ → σ) (b : Nat) : ∀ a j s, itr g (a + b) j s = itr g b (j + a) (itr g a j s)
  | 0, j, s => by rw [Nat.zero_add, Nat.add_zero]; rfl
  | a + 1, j, s => by
    rw [show a + 1 + b = (a + b) + 1 by omega, itr_s, itr_add g b a, itr_s, show j + 1 + a = j + (a + 1) by omega]
theorem itr_id {σ : Type} (g : Nat → σ → σ) : ∀ d j s, (∀ i, j ≤ i → i < j + d → ∀ s, g i s = s) → itr g d j s = s
  | 0, _, _, _ => rfl
  | d + 1, j, s, h => by
    rw [itr_s, h j (by omega) (by omega)]
    exact itr_id g d (j + 1) s (fun i h1 h2 => h i (by omega) (by omega))
theorem itr_inv {σ : Type} (g : Nat → σ → σ) (Q : σ → Prop) : ∀ d j s, (∀ i, j ≤ i → i < j + d → ∀ s, Q s → Q (g i s)) → Q s → Q (itr g d j s)
  | 0, _, _, _, q => q
  | d + 1, j, s, h, q => by
    rw [itr_s]
    exact itr_inv g Q d (j + 1) _ (fun i h1 h2 => h i (by omega) (by omega)) (h j (by omega) (by omega) s q)
def mk1 (M : Nat → Bool) (r : Nat) : Nat → Bool := fun o => M o || decide (o + 1 = r)
theorem mk1_0 (M : Nat → Bool) : mk1 M 0 = M := by
  funext o
  simp [mk1]
def XM (xm : Nat → Int32) (M : Nat → Bool) : Prop := ∀ o, o < 10 → xm (o + 1) = b01 (M o)
def YM (ym : Nat → Int32) (M : Nat → Bool) : Prop := ∀ o, o < 10 → ym o = b01 (M o)
theorem XM_up {xm : Nat → Int32} {M : Nat → Bool} (h : XM xm M) (r : Nat) : XM (upd xm r 1) (mk1 M r) := by
  intro o ho
  unfold mk1
  by_cases e : o + 1 = r
  · subst e; rw [pk_us]; simp [b01]
  · rw [pk_un e, h o ho]; simp [e]
theorem YM_up {ym : Nat → Int32} {M : Nat → Bool} (h : YM ym M) (k : Nat) : YM (upd ym k 1) (mk1 M (k + 1)) := by
  intro o ho
  unfold mk1
  by_cases e : o = k
  · subst e; rw [pk_us]; simp [b01]
  · rw [pk_un e, h o ho]; simp [e]
theorem gm_dl {a n : Nat} (ha : a < 2 ^ 31) (h0 : 0 < (OfNat.ofNat n : Nat)) (hn : (OfNat.ofNat n : Nat) < 2 ^ 31) : nI a / (no_index (OfNat.ofNat n : Int32)) = nI (a / OfNat.ofNat n) := pk_div (d := n) ha h0 hn
theorem gm_sb {a b : Nat} (h : b ≤ a) : nI a - nI b = nI (a - b) := pk_sub h
/-- the reference's mark -/
theorem ev_mark (g_types g_methods g_place g_result g_linked g_bad g_high g_refs g_active g_ticks g_code : Int32) (b_above b_ownField b_mType b_mName b_mLength b_bytes b_starts : Nat → Int32) (b_seen b_done : Nat → Int64) (b_heights b_local b_sure b_objType b_objField b_marked b_global b_fMethod b_fPc b_fHigh b_fLocal b_fEntry : Nat → Int32) {post : SY → Prop} {r : Nat} {M : Nat → Bool} (hr : r ≤ 10) (h : YM b_marked M) (J : ∀ ym, YM ym (mk1 M r) → post (g_types, g_methods, g_place, g_result, g_linked, g_bad, g_high, g_refs, g_active, g_ticks, g_code, b_above, b_ownField, b_mType, b_mName, b_mLength, b_bytes, b_starts, b_seen, b_done, b_heights, b_local, b_sure, b_objType, b_objField, ym, b_global, b_fMethod, b_fPc, b_fHigh, b_fLocal, b_fEntry)) : wpY_mark post (g_types, g_methods, g_place, g_result, g_linked, g_bad, g_high, g_refs, g_active, g_ticks, g_code, b_above, b_ownField, b_mType, b_mName, b_mLength, b_bytes, b_starts, b_seen, b_done, b_heights, b_local, b_sure, b_objType, b_objField, b_marked, b_global, b_fMethod, b_fPc, b_fHigh, b_fLocal, b_fEntry) (yR r) := by
  cases r with
  | zero =>
    rw [yR_0]
    exact br_t (by decide) (J _ (by rw [mk1_0]; exact h))
  | succ k =>
    rw [yR_s]
    refine br_f (nI_pos (by omega)) ⟨vp_in_nI (by omega) (by omega), nm_e ?_⟩
    rw [nI_clamp (by omega), gm_nb1]
    exact J _ (YM_up h k)
/-! ===== the roots ===== -/
/-- the reference's slot s of frame f -/
def ysl (yl ye : Nat → Int32) (f s : Nat) : Int32 := if s < 4 then yl (f * 4 + s) else ye (f * 6 + (s - 4))
/-- the sure refs of n frames: rv f s, 0 where slot s of frame f is none -/
def RtOK (n : Nat) (rv : Nat → Nat → Nat) (K su fm fa fh sl ym yp yh yl ye : Nat → Int32) : Prop := ∀ f, f < n → ∃ m p hf, m < 8 ∧ p < 32 ∧ hf ≤ 5 ∧ fm f = nI m ∧ ym f = nI m ∧ fa f = nI p ∧ yp f = nI p ∧ fh f = nI hf ∧ yh f = nI hf ∧ (∀ s, s < 4 + hf → (K ((m * 32 + p) * 9 + s) = 4 ↔ bt (su (m * 32 + p)) s = true) ∧ (K ((m * 32 + p) * 9 + s) = 4 → sl (f * 9 + s) = nI (rv f s) ∧ ysl yl ye f s = yR (rv f s) ∧ rv f s ≤ 10) ∧ (K ((m * 32 + p) * 9 + s) ≠ 4 → rv f s = 0)) ∧ (∀ s, 4 + hf ≤ s → rv f s = 0)
def rtG (rv : Nat → Nat → Nat) (i : Nat) (M : Nat → Bool) : Nat → Bool := mk1 M (rv (i / 9) (i % 9))
theorem rtG_at (rv : Nat → Nat → Nat) {f s : Nat} (hs : s < 9) (M : Nat → Bool) : rtG rv (f * 9 + s) M = mk1 M (rv f s) := by
  unfold rtG
  rw [show (f * 9 + s) / 9 = f by omega, show (f * 9 + s) % 9 = s by omega]
theorem ev_mr78 (f_typeCount f_methodCount f_linked f_faultPlace f_flowHeight f_active f_ticksLeft f_outcome f_latestResult : Int32) (a_typeAbove a_fieldSet a_methodType a_methodName a_codeLength a_bytes a_isStart a_heightAt a_kindsAt a_isWaiting a_flowKinds a_globals a_objectType a_fieldValue a_frameMethod a_frameAt a_frameHeight a_slots : Nat → Int32) {n f m p hf : Nat} {rv : Nat → Nat → Nat} (hf6 : f < 6) (hm : m < 8) (hp : p < 32) (h5 : hf ≤ 5) (e3 : a_frameHeight f = nI hf)
    (hs : ∀ s, s < 4 + hf → (a_kindsAt ((m * 32 + p) * 9 + s) = 4 → a_slots (f * 9 + s) = nI (rv f s) ∧ rv f s ≤ 10) ∧ (a_kindsAt ((m * 32 + p) * 9 + s) ≠ 4 → rv f s = 0)) :
    ∀ d s, s + d = 4 + hf → ∀ xm M, XM xm M → ∃ xm', XM xm' (itr (rtG rv) d (f * 9 + s) M) ∧ ∀ post J, J (nI (f + 1)) a_typeAbove a_fieldSet a_methodType a_methodName a_codeLength a_bytes a_isStart a_heightAt a_kindsAt a_isWaiting a_flowKinds a_globals a_objectType a_fieldValue xm' a_frameMethod a_frameAt a_frameHeight a_slots → wX_markRoots_78 post J (nI f) (nI ((m * 32 + p) * 9)) f_typeCount f_methodCount f_linked f_faultPlace f_flowHeight f_active f_ticksLeft f_outcome f_latestResult (d + 1) (nI s) a_typeAbove a_fieldSet a_methodType a_methodName a_codeLength a_bytes a_isStart a_heightAt a_kindsAt a_isWaiting a_flowKinds a_globals a_objectType a_fieldValue xm a_frameMethod a_frameAt a_frameHeight a_slots := by
  intro d
  induction d with
  | zero =>
    intro s hsd xm M h
    refine ⟨xm, h, fun post J j => ?_⟩
    unfold wX_markRoots_78
    simp (disch := omega) only [nI_clamp, gm_clL, gm_in, gm_inL, gm_ml, gm_al, gm_la, gm_sl, nI_add, pk_mul, gm_eqL, gm_leL, gm_ltL, gm_Lle, gm_Llt, gm_eq, gm_le, gm_lt, gm_m1, forall_eq, true_and, Nat.not_lt_zero, Nat.add_sub_cancel, gm_z2, gm_z3, gm_z9, gm_z16, gm_z18, gm_z32, gm_z36, gm_z64, gm_z1152, not_true_eq_false, not_false_eq_true, false_implies, true_implies, and_true, implies_true, e3]
    exact ⟨fun _ => j, fun z => absurd (show 4 + hf ≤ s by omega) z⟩
  | succ d ih =>
    intro s hsd xm M h
    obtain ⟨a1, a2⟩ := hs s (by omega)
    by_cases e : a_kindsAt ((m * 32 + p) * 9 + s) = 4
    · obtain ⟨b1, b2⟩ := a1 e
      obtain ⟨xm', c1, c2⟩ := ih (s + 1) (by omega) (upd xm (rv f s) 1) (mk1 M (rv f s)) (XM_up h _)
      refine ⟨xm', ?_, fun post J j => ?_⟩
      · rw [itr_s, rtG_at rv (by omega)]
        exact c1
      · unfold wX_markRoots_78
        simp (disch := omega) only [nI_clamp, gm_clL, gm_in, gm_inL, gm_ml, gm_al, gm_la, gm_sl, nI_add, pk_mul, gm_eqL, gm_leL, gm_ltL, gm_Lle, gm_Llt, gm_eq, gm_le, gm_lt, gm_m1, forall_eq, true_and, Nat.not_lt_zero, Nat.add_sub_cancel, gm_z2, gm_z3, gm_z9, gm_z16, gm_z18, gm_z32, gm_z36, gm_z64, gm_z1152, not_true_eq_false, not_false_eq_true, false_implies, true_implies, and_true, implies_true, e3, e, b1, gm_nb1]
        exact ⟨fun z => absurd z (by omega), fun _ => c2 post J j⟩
    · obtain ⟨xm', c1, c2⟩ := ih (s + 1) (by omega) xm M h
      refine ⟨xm', ?_, fun post J j => ?_⟩
      · rw [itr_s, rtG_at rv (by omega), a2 e, mk1_0]
        exact c1
      · unfold wX_markRoots_78
        simp (disch := omega) only [nI_clamp, gm_clL, gm_in, gm_inL, gm_ml, gm_al, gm_la, gm_sl, nI_add, pk_mul, gm_eqL, gm_leL, gm_ltL, gm_Lle, gm_Llt, gm_eq, gm_le, gm_lt, gm_m1, forall_eq, true_and, Nat.not_lt_zero, Nat.add_sub_cancel, gm_z2, gm_z3, gm_z9, gm_z16, gm_z18, gm_z32, gm_z36, gm_z64, gm_z1152, not_true_eq_false, not_false_eq_true, false_implies, true_implies, and_true, implies_true, e3, e]
        exact ⟨fun z => absurd z (by omega), fun _ => c2 post J j⟩
theorem ev_mr48 (f_typeCount f_methodCount f_linked f_faultPlace f_flowHeight f_ticksLeft f_outcome f_latestResult : Int32) (a_typeAbove a_fieldSet a_methodType a_methodName a_codeLength a_bytes a_isStart a_heightAt a_kindsAt a_isWaiting a_flowKinds a_globals a_objectType a_fieldValue a_frameMethod a_frameAt a_frameHeight a_slots : Nat → Int32) {n : Nat} {rv : Nat → Nat → Nat} {su ym yp yh yl ye : Nat → Int32} (hn : n ≤ 6) (R : RtOK n rv a_kindsAt su a_frameMethod a_frameAt a_frameHeight a_slots ym yp yh yl ye) :
    ∀ d f, f + d = n → ∀ xm M, XM xm M → ∃ xm', XM xm' (itr (rtG rv) (d * 9) (f * 9) M) ∧ ∀ post, post (f_typeCount, f_methodCount, f_linked, f_faultPlace, f_flowHeight, nI n, f_ticksLeft, f_outcome, f_latestResult, a_typeAbove, a_fieldSet, a_methodType, a_methodName, a_codeLength, a_bytes, a_isStart, a_heightAt, a_kindsAt, a_isWaiting, a_flowKinds, a_globals, a_objectType, a_fieldValue, xm', a_frameMethod, a_frameAt, a_frameHeight, a_slots) → wX_markRoots_48 post f_typeCount f_methodCount f_linked f_faultPlace f_flowHeight (nI n) f_ticksLeft f_outcome f_latestResult (d + 1) (nI f) a_typeAbove a_fieldSet a_methodType a_methodName a_codeLength a_bytes a_isStart a_heightAt a_kindsAt a_isWaiting a_flowKinds a_globals a_objectType a_fieldValue xm a_frameMethod a_frameAt a_frameHeight a_slots := by
  intro d
  induction d with
  | zero =>
    intro f hf xm M h
    refine ⟨xm, by rw [Nat.zero_mul]; exact h, fun post J => ?_⟩
    unfold wX_markRoots_48
    exact br_t (nI_le (by omega) (by omega)) J
  | succ d ih =>
    intro f hfd xm M h
    obtain ⟨m, p, hf, hm, hp, h5, e1, -, e2, -, e3, -, hs, hz⟩ := R f (by omega)
    obtain ⟨xm1, c1, c2⟩ := ev_mr78 f_typeCount f_methodCount f_linked f_faultPlace f_flowHeight (nI n) f_ticksLeft f_outcome f_latestResult a_typeAbove a_fieldSet a_methodType a_methodName a_codeLength a_bytes a_isStart a_heightAt a_kindsAt a_isWaiting a_flowKinds a_globals a_objectType a_fieldValue a_frameMethod a_frameAt a_frameHeight a_slots (n := n) (f := f) (rv := rv) (by omega) hm hp h5 e3 (fun s h => ⟨fun z => ⟨((hs s h).2.1 z).1, ((hs s h).2.1 z).2.2⟩, (hs s h).2.2⟩) (4 + hf) 0 (by omega) xm M h
    obtain ⟨xm2, d1, d2⟩ := ih (f + 1) (by omega) xm1 _ c1
    refine ⟨xm2, ?_, fun post J => ?_⟩
    · rw [show (d + 1) * 9 = 9 + d * 9 by omega, itr_add, show f * 9 + 9 = (f + 1) * 9 by omega]
      have e : itr (rtG rv) 9 (f * 9) M = itr (rtG rv) (4 + hf) (f * 9 + 0) M := by
        rw [show itr (rtG rv) 9 (f * 9) M = itr (rtG rv) ((4 + hf) + (5 - hf)) (f * 9) M from by rw [show (4 + hf) + (5 - hf) = 9 by omega], itr_add]
        refine itr_id _ _ _ _ (fun i h1 h2 s => ?_)
        obtain ⟨s', rfl⟩ : ∃ s', i = f * 9 + s' := ⟨i - f * 9, by omega⟩
        rw [rtG_at rv (by omega), hz s' (by omega), mk1_0]
      rw [e]
      exact d1
    · unfold wX_markRoots_48
      simp (disch := omega) only [nI_clamp, gm_clL, gm_in, gm_inL, gm_ml, gm_al, gm_la, gm_sl, nI_add, pk_mul, gm_eqL, gm_leL, gm_ltL, gm_Lle, gm_Llt, gm_eq, gm_le, gm_lt, gm_m1, forall_eq, true_and, Nat.not_lt_zero, Nat.add_sub_cancel, gm_z2, gm_z3, gm_z9, gm_z16, gm_z18, gm_z32, gm_z36, gm_z64, gm_z1152, not_true_eq_false, not_false_eq_true, false_implies, true_implies, and_true, implies_true, e1, e2]
      exact ⟨fun z => absurd z (by omega), fun _ => ⟨4 + hf + 1, c2 _ _ (d2 post J)⟩⟩
theorem ev_mr2 (f_typeCount f_methodCount f_linked f_faultPlace f_flowHeight f_active f_ticksLeft f_outcome f_latestResult : Int32) (a_typeAbove a_fieldSet a_methodType a_methodName a_codeLength a_bytes a_isStart a_heightAt a_kindsAt a_isWaiting a_flowKinds a_globals a_objectType a_fieldValue a_frameMethod a_frameAt a_frameHeight a_slots : Nat → Int32) : ∀ d j, j + d = 11 → ∀ xm : Nat → Int32, (∀ o, o < j → xm o = 0) → ∃ xm' : Nat → Int32, (∀ o, o < 11 → xm' o = 0) ∧ ∀ post, (∃ n23, wX_markRoots_23 post f_typeCount f_methodCount f_linked f_faultPlace f_flowHeight f_active f_ticksLeft f_outcome f_latestResult n23 0 a_typeAbove a_fieldSet a_methodType a_methodName a_codeLength a_bytes a_isStart a_heightAt a_kindsAt a_isWaiting a_flowKinds a_globals a_objectType a_fieldValue xm' a_frameMethod a_frameAt a_frameHeight a_slots) → wX_markRoots_2 post f_typeCount f_methodCount f_linked f_faultPlace f_flowHeight f_active f_ticksLeft f_outcome f_latestResult (d + 1) (nI j) a_typeAbove a_fieldSet a_methodType a_methodName a_codeLength a_bytes a_isStart a_heightAt a_kindsAt a_isWaiting a_flowKinds a_globals a_objectType a_fieldValue xm a_frameMethod a_frameAt a_frameHeight a_slots := by
  intro d
  induction d with
  | zero =>
    intro j hj xm h
    cases (show j = 11 by omega)
    refine ⟨xm, h, fun post J => ?_⟩
    unfold wX_markRoots_2
    exact br_t (by decide) J
  | succ d ih =>
    intro j hj xm h
    obtain ⟨xm', c1, c2⟩ := ih (j + 1) (by omega) (upd xm j 0) (fun o ho => by
      by_cases e : o = j
      · subst e; exact pk_us
      · rw [pk_un e]; exact h o (by omega))
    refine ⟨xm', c1, fun post J => ?_⟩
    unfold wX_markRoots_2
    simp (disch := omega) only [nI_clamp, gm_clL, gm_in, gm_inL, gm_ml, gm_al, gm_la, gm_sl, nI_add, pk_mul, gm_eqL, gm_leL, gm_ltL, gm_Lle, gm_Llt, gm_eq, gm_le, gm_lt, gm_m1, forall_eq, true_and, Nat.not_lt_zero, Nat.add_sub_cancel, gm_z2, gm_z3, gm_z9, gm_z16, gm_z18, gm_z32, gm_z36, gm_z64, gm_z1152, not_true_eq_false, not_false_eq_true, false_implies, true_implies, and_true, implies_true, gm_nb0]
    exact ⟨fun z => absurd z (by omega), fun _ => c2 post J⟩
def M00 : Nat → Bool := fun _ => false
theorem ev_markRoots (f_typeCount f_methodCount f_linked f_faultPlace f_flowHeight f_ticksLeft f_outcome f_latestResult : Int32) (a_typeAbove a_fieldSet a_methodType a_methodName a_codeLength a_bytes a_isStart a_heightAt a_kindsAt a_isWaiting a_flowKinds a_globals a_objectType a_fieldValue a_isMarked a_frameMethod a_frameAt a_frameHeight a_slots : Nat → Int32) {n g0 g1 : Nat} {rv : Nat → Nat → Nat} {su ym yp yh yl ye : Nat → Int32} (hn : n ≤ 6) (R : RtOK n rv a_kindsAt su a_frameMethod a_frameAt a_frameHeight a_slots ym yp yh yl ye) (e0 : a_globals 0 = nI g0) (e1 : a_globals 1 = nI g1) (h0 : g0 ≤ 10) (h1 : g1 ≤ 10) :
    ∃ xm', XM xm' (itr (rtG rv) (n * 9) 0 (mk1 (mk1 M00 g0) g1)) ∧ ∀ post, post (f_typeCount, f_methodCount, f_linked, f_faultPlace, f_flowHeight, nI n, f_ticksLeft, f_outcome, f_latestResult, a_typeAbove, a_fieldSet, a_methodType, a_methodName, a_codeLength, a_bytes, a_isStart, a_heightAt, a_kindsAt, a_isWaiting, a_flowKinds, a_globals, a_objectType, a_fieldValue, xm', a_frameMethod, a_frameAt, a_frameHeight, a_slots) → wpX_markRoots post (f_typeCount, f_methodCount, f_linked, f_faultPlace, f_flowHeight, nI n, f_ticksLeft, f_outcome, f_latestResult, a_typeAbove, a_fieldSet, a_methodType, a_methodName, a_codeLength, a_bytes, a_isStart, a_heightAt, a_kindsAt, a_isWaiting, a_flowKinds, a_globals, a_objectType, a_fieldValue, a_isMarked, a_frameMethod, a_frameAt, a_frameHeight, a_slots) := by
  obtain ⟨xm1, a1, a2⟩ := ev_mr2 f_typeCount f_methodCount f_linked f_faultPlace f_flowHeight (nI n) f_ticksLeft f_outcome f_latestResult a_typeAbove a_fieldSet a_methodType a_methodName a_codeLength a_bytes a_isStart a_heightAt a_kindsAt a_isWaiting a_flowKinds a_globals a_objectType a_fieldValue a_frameMethod a_frameAt a_frameHeight a_slots 11 0 rfl a_isMarked (fun o z => absurd z (by omega))
  have b1 : XM xm1 M00 := fun o ho => a1 (o + 1) (by omega)
  obtain ⟨xm2, c1, c2⟩ := ev_mr48 f_typeCount f_methodCount f_linked f_faultPlace f_flowHeight f_ticksLeft f_outcome f_latestResult a_typeAbove a_fieldSet a_methodType a_methodName a_codeLength a_bytes a_isStart a_heightAt a_kindsAt a_isWaiting a_flowKinds a_globals a_objectType a_fieldValue a_frameMethod a_frameAt a_frameHeight a_slots hn R n 0 (by omega) _ _ (XM_up (XM_up b1 g0) g1)
  refine ⟨xm2, by rw [Nat.zero_mul] at c1; exact c1, fun post J => ⟨12, a2 post ⟨3, ?_⟩⟩⟩
  unfold wX_markRoots_23
  refine br_f (by decide) ⟨vp_in_nI (n := 0) (by omega) (by omega), ?_⟩
  rw [show (0 : Int32).toNatClampNeg = 0 from rfl, e0, nI_clamp (by omega), gm_nb1]
  refine ⟨vp_in_nI (by omega) (by omega), nm_e (nm_e ?_)⟩
  unfold wX_markRoots_23
  refine br_f (by decide) ⟨vp_in_nI (n := 1) (by omega) (by omega), ?_⟩
  rw [show ((0 : Int32) + 1).toNatClampNeg = 1 from rfl, e1, nI_clamp (by omega), gm_nb1]
  refine ⟨vp_in_nI (by omega) (by omega), nm_e (nm_e ?_)⟩
  unfold wX_markRoots_23
  exact br_t (by decide) ⟨n + 1, c2 post J⟩
