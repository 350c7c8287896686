/-! ===== the fields ===== -/
def fdG (rr : Nat → Nat → Nat) (i : Nat) (M : Nat → Bool) : Nat → Bool := if 8 ≤ i % 16 ∧ M (i / 16) = true then mk1 M (rr (i / 16) (i % 16)) else M
theorem fdG_at (rr : Nat → Nat → Nat) {o f : Nat} (hf : f < 16) (M : Nat → Bool) : fdG rr (o * 16 + f) M = if 8 ≤ f ∧ M o = true then mk1 M (rr o f) else M := by
  unfold fdG
  rw [show (o * 16 + f) / 16 = o by omega, show (o * 16 + f) % 16 = f by omega]
/-- nothing at h or beyond is marked -/
def MI (h : Nat) (M : Nat → Bool) : Prop := ∀ o, M o = true → o < h
theorem MI_mk1 {h r : Nat} {M : Nat → Bool} (I : MI h M) (hr : r ≤ h) : MI h (mk1 M r) := by
  intro o ho
  unfold mk1 at ho
  rw [Bool.or_eq_true] at ho
  rcases ho with z | z
  · exact I o z
  · have := of_decide_eq_true z
    omega
theorem MI_fdG {h : Nat} {rr : Nat → Nat → Nat} (hr : ∀ o, o < h → ∀ f, 8 ≤ f → f < 16 → rr o f ≤ h) (i : Nat) {M : Nat → Bool} (I : MI h M) : MI h (fdG rr i M) := by
  unfold fdG
  split
  · rename_i z
    exact MI_mk1 I (hr _ (I _ z.2) _ z.1 (by omega))
  · exact I
theorem MI_00 (h : Nat) : MI h M00 := fun o z => nomatch z
theorem MI_rtG {h n : Nat} {rv : Nat → Nat → Nat} (hr : ∀ f s, rv f s ≤ h) (i : Nat) {M : Nat → Bool} (I : MI h M) : MI h (rtG rv i M) := MI_mk1 I (hr _ _)
/-- the refs of the objects' fields: for both sides -/
def FdOK (h : Nat) (rr : Nat → Nat → Nat) (fv : Nat → Int32) : Prop := h ≤ 10 ∧ ∀ o, o < h → ∀ f, 8 ≤ f → f < 16 → rr o f ≤ h ∧ fv ((o + 1) * 16 + f) = nI (rr o f)
theorem ev_mf19 (f_typeCount f_methodCount f_linked f_faultPlace f_flowHeight f_active f_ticksLeft f_outcome f_latestResult : Int32) (a_typeAbove a_fieldSet a_methodType a_methodName a_codeLength a_bytes a_isStart a_heightAt a_kindsAt a_isWaiting a_flowKinds a_globals a_objectType a_fieldValue a_frameMethod a_frameAt a_frameHeight a_slots : Nat → Int32) {h o : Nat} {rr : Nat → Nat → Nat} (F : FdOK h rr a_fieldValue) (ho : o < 10) :
    ∀ d f, f + d = 16 → 8 ≤ f → ∀ xm M, XM xm M → MI h M → ∃ xm', XM xm' (itr (fdG rr) d (o * 16 + f) M) ∧ ∀ post J2 J10 (x1 : Int32), J10 (nI (o + 1 + 1)) a_typeAbove a_fieldSet a_methodType a_methodName a_codeLength a_bytes a_isStart a_heightAt a_kindsAt a_isWaiting a_flowKinds a_globals a_objectType a_fieldValue xm' a_frameMethod a_frameAt a_frameHeight a_slots → wX_markFields_19 post J2 J10 x1 (nI (o + 1)) f_typeCount f_methodCount f_linked f_faultPlace f_flowHeight f_active f_ticksLeft f_outcome f_latestResult (d + 1) (nI f) a_typeAbove a_fieldSet a_methodType a_methodName a_codeLength a_bytes a_isStart a_heightAt a_kindsAt a_isWaiting a_flowKinds a_globals a_objectType a_fieldValue xm a_frameMethod a_frameAt a_frameHeight a_slots := by
  intro d
  induction d with
  | zero =>
    intro f hf h8 xm M hX I
    cases (show f = 16 by omega)
    refine ⟨xm, hX, fun post J2 J10 x1 j => ?_⟩
    unfold wX_markFields_19
    exact br_t (by decide) (nm_r (nI_1 _) j)
  | succ d ih =>
    intro f hf h8 xm M hX I
    have hx := hX o ho
    cases hM : M o
    · refine ⟨xm, ?_, fun post J2 J10 x1 j => ?_⟩
      · have : ∀ d f, f + d = 16 → itr (fdG rr) d (o * 16 + f) M = M := by
          intro d
          induction d with
          | zero => intro f _; rfl
          | succ d ih2 =>
            intro f hf
            rw [itr_s, fdG_at rr (by omega), if_neg (by rw [hM]; exact fun z => nomatch z.2)]
            exact ih2 (f + 1) (by omega)
        rw [this (d + 1) f hf]
        exact hX
      · unfold wX_markFields_19
        rw [hM] at hx
        simp (disch := omega) only [nI_clamp, gm_clL, gm_in, gm_inL, gm_ml, gm_al, gm_la, gm_sl, nI_add, pk_mul, gm_eqL, gm_leL, gm_ltL, gm_Lle, gm_Llt, gm_eq, gm_le, gm_lt, gm_m1, forall_eq, true_and, Nat.not_lt_zero, Nat.add_sub_cancel, gm_z2, gm_z3, gm_z9, gm_z16, gm_z18, gm_z32, gm_z36, gm_z64, gm_z1152, not_true_eq_false, not_false_eq_true, false_implies, true_implies, and_true, implies_true]
        exact ⟨fun z => absurd z (by omega), fun _ => br_t hx j⟩
    · obtain ⟨a1, a2⟩ := F.2 o (I o hM) f h8 (by omega)
      have a3 := F.1
      obtain ⟨xm', c1, c2⟩ := ih (f + 1) (by omega) (by omega) (upd xm (rr o f) 1) (mk1 M (rr o f)) (XM_up hX _) (MI_mk1 I a1)
      refine ⟨xm', ?_, fun post J2 J10 x1 j => ?_⟩
      · rw [itr_s, fdG_at rr (by omega), if_pos ⟨h8, hM⟩]
        exact c1
      · unfold wX_markFields_19
        rw [hM] at hx
        simp (disch := omega) only [nI_clamp, gm_clL, gm_in, gm_inL, gm_ml, gm_al, gm_la, gm_sl, nI_add, pk_mul, gm_eqL, gm_leL, gm_ltL, gm_Lle, gm_Llt, gm_eq, gm_le, gm_lt, gm_m1, forall_eq, true_and, Nat.not_lt_zero, Nat.add_sub_cancel, gm_z2, gm_z3, gm_z9, gm_z16, gm_z18, gm_z32, gm_z36, gm_z64, gm_z1152, not_true_eq_false, not_false_eq_true, false_implies, true_implies, and_true, implies_true, a2, gm_nb1]
        exact ⟨fun z => absurd z (by omega), fun _ => br_f (by rw [hx]; decide) (c2 post J2 J10 x1 j)⟩
theorem ev_mf10 (f_typeCount f_methodCount f_linked f_faultPlace f_flowHeight f_active f_ticksLeft f_outcome f_latestResult : Int32) (a_typeAbove a_fieldSet a_methodType a_methodName a_codeLength a_bytes a_isStart a_heightAt a_kindsAt a_isWaiting a_flowKinds a_globals a_objectType a_fieldValue a_frameMethod a_frameAt a_frameHeight a_slots : Nat → Int32) {h : Nat} {rr : Nat → Nat → Nat} (F : FdOK h rr a_fieldValue) :
    ∀ d o, o + d = 10 → ∀ xm M, XM xm M → MI h M → ∃ xm', XM xm' (itr (fdG rr) (d * 16) (o * 16) M) ∧ ∀ post J2 (x1 : Nat), J2 (nI (x1 + 1)) a_typeAbove a_fieldSet a_methodType a_methodName a_codeLength a_bytes a_isStart a_heightAt a_kindsAt a_isWaiting a_flowKinds a_globals a_objectType a_fieldValue xm' a_frameMethod a_frameAt a_frameHeight a_slots → wX_markFields_10 post J2 (nI x1) f_typeCount f_methodCount f_linked f_faultPlace f_flowHeight f_active f_ticksLeft f_outcome f_latestResult (d + 1) (nI (o + 1)) a_typeAbove a_fieldSet a_methodType a_methodName a_codeLength a_bytes a_isStart a_heightAt a_kindsAt a_isWaiting a_flowKinds a_globals a_objectType a_fieldValue xm a_frameMethod a_frameAt a_frameHeight a_slots := by
  intro d
  induction d with
  | zero =>
    intro o ho xm M hX I
    cases (show o = 10 by omega)
    refine ⟨xm, by rw [Nat.zero_mul]; exact hX, fun post J2 x1 j => ?_⟩
    unfold wX_markFields_10
    exact br_t (by decide) (nm_r (nI_1 _) j)
  | succ d ih =>
    intro o ho xm M hX I
    have e8 : itr (fdG rr) 8 (o * 16) M = M := itr_id _ _ _ _ (fun i h1 h2 s => by
      obtain ⟨f, rfl⟩ : ∃ f, i = o * 16 + f := ⟨i - o * 16, by omega⟩
      rw [fdG_at rr (by omega), if_neg (fun z => by omega)])
    have e16 : itr (fdG rr) 16 (o * 16) M = itr (fdG rr) 8 (o * 16 + 8) M := by
      rw [show (16 : Nat) = 8 + 8 from rfl, itr_add, show o * (8 + 8) = o * 16 from rfl, e8]
    obtain ⟨xm1, c1, c2⟩ := ev_mf19 f_typeCount f_methodCount f_linked f_faultPlace f_flowHeight f_active f_ticksLeft f_outcome f_latestResult a_typeAbove a_fieldSet a_methodType a_methodName a_codeLength a_bytes a_isStart a_heightAt a_kindsAt a_isWaiting a_flowKinds a_globals a_objectType a_fieldValue a_frameMethod a_frameAt a_frameHeight a_slots F (by omega : o < 10) 8 8 rfl (by omega) xm M hX I
    rw [← e16] at c1
    have I1 : MI h (itr (fdG rr) 16 (o * 16) M) := itr_inv _ (MI h) _ _ _ (fun i _ _ s => MI_fdG (fun o ho f h8 h16 => (F.2 o ho f h8 h16).1) i) I
    obtain ⟨xm2, d1, d2⟩ := ih (o + 1) (by omega) xm1 _ c1 I1
    refine ⟨xm2, ?_, fun post J2 x1 j => ?_⟩
    · rw [show (d + 1) * 16 = 16 + d * 16 by omega, itr_add, show o * 16 + 16 = (o + 1) * 16 by omega]
      exact d1
    · unfold wX_markFields_10
      exact br_f (nI_ge (b := 11) (by omega) (by decide)) ⟨9, c2 _ _ _ _ (d2 post J2 x1 j)⟩
theorem ev_mf2 (f_typeCount f_methodCount f_linked f_faultPlace f_flowHeight f_active f_ticksLeft f_outcome f_latestResult : Int32) (a_typeAbove a_fieldSet a_methodType a_methodName a_codeLength a_bytes a_isStart a_heightAt a_kindsAt a_isWaiting a_flowKinds a_globals a_objectType a_fieldValue a_frameMethod a_frameAt a_frameHeight a_slots : Nat → Int32) {h : Nat} {rr : Nat → Nat → Nat} (F : FdOK h rr a_fieldValue) :
    ∀ d x, x + d = 10 → ∀ xm M, XM xm M → MI h M → ∃ xm', XM xm' (itr (fun _ => itr (fdG rr) 160 0) d x M) ∧ ∀ post, post (f_typeCount, f_methodCount, f_linked, f_faultPlace, f_flowHeight, f_active, f_ticksLeft, f_outcome, f_latestResult, a_typeAbove, a_fieldSet, a_methodType, a_methodName, a_codeLength, a_bytes, a_isStart, a_heightAt, a_kindsAt, a_isWaiting, a_flowKinds, a_globals, a_objectType, a_fieldValue, xm', a_frameMethod, a_frameAt, a_frameHeight, a_slots) → wX_markFields_2 post f_typeCount f_methodCount f_linked f_faultPlace f_flowHeight f_active f_ticksLeft f_outcome f_latestResult (d + 1) (nI x) a_typeAbove a_fieldSet a_methodType a_methodName a_codeLength a_bytes a_isStart a_heightAt a_kindsAt a_isWaiting a_flowKinds a_globals a_objectType a_fieldValue xm a_frameMethod a_frameAt a_frameHeight a_slots := by
  intro d
  induction d with
  | zero =>
    intro x hx xm M hX I
    cases (show x = 10 by omega)
    refine ⟨xm, hX, fun post j => ?_⟩
    unfold wX_markFields_2
    exact br_t (by decide) j
  | succ d ih =>
    intro x hx xm M hX I
    obtain ⟨xm1, c1, c2⟩ := ev_mf10 f_typeCount f_methodCount f_linked f_faultPlace f_flowHeight f_active f_ticksLeft f_outcome f_latestResult a_typeAbove a_fieldSet a_methodType a_methodName a_codeLength a_bytes a_isStart a_heightAt a_kindsAt a_isWaiting a_flowKinds a_globals a_objectType a_fieldValue a_frameMethod a_frameAt a_frameHeight a_slots F 10 0 rfl xm M hX I
    have I1 : MI h (itr (fdG rr) 160 0 M) := itr_inv _ (MI h) _ _ _ (fun i _ _ s => MI_fdG (fun o ho f h8 h16 => (F.2 o ho f h8 h16).1) i) I
    obtain ⟨xm2, d1, d2⟩ := ih (x + 1) (by omega) xm1 _ c1 I1
    refine ⟨xm2, d1, fun post j => ?_⟩
    unfold wX_markFields_2
    exact br_f (nI_ge (b := 10) (by omega) (by decide)) ⟨11, c2 _ _ x (d2 post j)⟩
/-! ===== the whole mark, counted ===== -/
def mfin (g0 g1 : Nat) (rv rr : Nat → Nat → Nat) (n : Nat) : Nat → Bool := itr (fun _ => itr (fdG rr) 160 0) 10 0 (itr (rtG rv) (n * 9) 0 (mk1 (mk1 M00 g0) g1))
theorem MI_fin {h g0 g1 n : Nat} {rv rr : Nat → Nat → Nat} {fv : Nat → Int32} (F : FdOK h rr fv) (h0 : g0 ≤ h) (h1 : g1 ≤ h) (hr : ∀ f s, rv f s ≤ h) : MI h (itr (rtG rv) (n * 9) 0 (mk1 (mk1 M00 g0) g1)) ∧ MI h (mfin g0 g1 rv rr n) := by
  have a : MI h (itr (rtG rv) (n * 9) 0 (mk1 (mk1 M00 g0) g1)) := itr_inv _ (MI h) _ _ _ (fun i _ _ s I => MI_mk1 I (hr _ _)) (MI_mk1 (MI_mk1 (MI_00 h) h0) h1)
  refine ⟨a, ?_⟩
  unfold mfin
  exact itr_inv _ (MI h) _ _ _ (fun i _ _ s I => itr_inv _ (MI h) _ _ _ (fun i _ _ s => MI_fdG (fun o ho f h8 h16 => (F.2 o ho f h8 h16).1) i) I) a
def cb (M : Nat → Bool) : Nat → Nat
  | 0 => 0
  | j + 1 => cb M j + (if M j = true then 1 else 0)
theorem cb_le (M : Nat → Bool) : ∀ j, cb M j ≤ j
  | 0 => Nat.le_refl 0
  | j + 1 => by
    have := cb_le M j
    unfold cb
    split <;> omega
theorem cb_lt {M : Nat → Bool} : ∀ {j}, cb M j < j → ∃ l, l < j ∧ M l = false ∧ ∀ o, o < l → M o = true
  | 0, h => absurd h (by omega)
  | j + 1, h => by
    unfold cb at h
    by_cases c : cb M j < j
    · obtain ⟨l, a, b⟩ := cb_lt c
      exact ⟨l, by omega, b⟩
    · cases hM : M j
      · refine ⟨j, by omega, hM, fun o ho => ?_⟩
        cases ho2 : M o
        · exfalso
          have : ∀ k, o < k → cb M k < k := by
            intro k
            induction k with
            | zero => intro z; exact absurd z (by omega)
            | succ k ih =>
              intro z
              unfold cb
              by_cases e : o = k
              · subst e
                rw [ho2]
                have := cb_le M o
                simp; omega
              · have := ih (by omega)
                split <;> omega
          exact c (this j ho)
        · rfl
      · rw [hM] at h
        simp at h
        omega
theorem ev_cm (f_typeCount f_methodCount f_linked f_faultPlace f_flowHeight f_active f_ticksLeft f_outcome f_latestResult : Int32) (a_typeAbove a_fieldSet a_methodType a_methodName a_codeLength a_bytes a_isStart a_heightAt a_kindsAt a_isWaiting a_flowKinds a_globals a_objectType a_fieldValue a_isMarked a_frameMethod a_frameAt a_frameHeight a_slots : Nat → Int32) {post : Int32 → Prop} {M : Nat → Bool} (h : XM a_isMarked M) (J : post (nI (cb M 10))) : ∀ d j, j + d = 10 → wX_countMarked_4 post f_typeCount f_methodCount f_linked f_faultPlace f_flowHeight f_active f_ticksLeft f_outcome f_latestResult a_typeAbove a_fieldSet a_methodType a_methodName a_codeLength a_bytes a_isStart a_heightAt a_kindsAt a_isWaiting a_flowKinds a_globals a_objectType a_fieldValue a_isMarked a_frameMethod a_frameAt a_frameHeight a_slots (d + 1) (nI (cb M j)) (nI (j + 1)) := by
  intro d
  induction d with
  | zero =>
    intro j hj
    cases (show j = 10 by omega)
    unfold wX_countMarked_4
    exact br_t (by decide) J
  | succ d ih =>
    intro j hj
    have hx := h j (by omega)
    have hc := cb_le M j
    have h2 := ih (j + 1) (by omega)
    unfold cb at h2
    unfold wX_countMarked_4
    simp (disch := omega) only [nI_clamp, gm_clL, gm_in, gm_inL, gm_ml, gm_al, gm_la, gm_sl, nI_add, pk_mul, gm_eqL, gm_leL, gm_ltL, gm_Lle, gm_Llt, gm_eq, gm_le, gm_lt, gm_m1, forall_eq, true_and, Nat.not_lt_zero, Nat.add_sub_cancel, gm_z2, gm_z3, gm_z9, gm_z16, gm_z18, gm_z32, gm_z36, gm_z64, gm_z1152, not_true_eq_false, not_false_eq_true, false_implies, true_implies, and_true, implies_true, Nat.add_zero]
    refine ⟨fun z => absurd z (by omega), fun _ => ?_⟩
    cases hM : M j
    · rw [hM] at hx h2
      exact br_t hx h2
    · rw [hM] at hx h2
      exact br_f (by rw [hx]; decide) h2
theorem ev_countMarked (f_typeCount f_methodCount f_linked f_faultPlace f_flowHeight f_active f_ticksLeft f_outcome f_latestResult : Int32) (a_typeAbove a_fieldSet a_methodType a_methodName a_codeLength a_bytes a_isStart a_heightAt a_kindsAt a_isWaiting a_flowKinds a_globals a_objectType a_fieldValue a_isMarked a_frameMethod a_frameAt a_frameHeight a_slots : Nat → Int32) {post : Int32 → Prop} {M : Nat → Bool} (h : XM a_isMarked M) (J : post (nI (cb M 10))) : wpX_countMarked post (f_typeCount, f_methodCount, f_linked, f_faultPlace, f_flowHeight, f_active, f_ticksLeft, f_outcome, f_latestResult, a_typeAbove, a_fieldSet, a_methodType, a_methodName, a_codeLength, a_bytes, a_isStart, a_heightAt, a_kindsAt, a_isWaiting, a_flowKinds, a_globals, a_objectType, a_fieldValue, a_isMarked, a_frameMethod, a_frameAt, a_frameHeight, a_slots) := ⟨11, ev_cm f_typeCount f_methodCount f_linked f_faultPlace f_flowHeight f_active f_ticksLeft f_outcome f_latestResult a_typeAbove a_fieldSet a_methodType a_methodName a_codeLength a_bytes a_isStart a_heightAt a_kindsAt a_isWaiting a_flowKinds a_globals a_objectType a_fieldValue a_isMarked a_frameMethod a_frameAt a_frameHeight a_slots h J 10 0 rfl⟩
/-! ===== the reference's reached ===== -/
theorem ev_yr43 (g_types g_methods g_place g_result g_linked g_bad g_high g_refs g_active g_ticks g_code : Int32) (b_above b_ownField b_mType b_mName b_mLength b_bytes b_starts : Nat → Int32) (b_seen b_done : Nat → Int64) (b_heights b_local b_sure b_objType b_objField b_global b_fMethod b_fPc b_fHigh b_fLocal b_fEntry : Nat → Int32) {n : Nat} {rv : Nat → Nat → Nat} {K fm fa fh sl : Nat → Int32} (hn : n ≤ 6) (R : RtOK n rv K b_sure fm fa fh sl b_fMethod b_fPc b_fHigh b_fLocal b_fEntry) :
    ∀ d i, i + d = n * 9 → ∀ ym M, YM ym M → ∃ ym', YM ym' (itr (rtG rv) d i M) ∧ ∀ post, (∃ n161, wY_reached_161 post n161 0 g_types g_methods g_place g_result g_linked g_bad g_high g_refs g_active g_ticks g_code b_above b_ownField b_mType b_mName b_mLength b_bytes b_starts b_seen b_done b_heights b_local b_sure b_objType b_objField ym' b_global b_fMethod b_fPc b_fHigh b_fLocal b_fEntry) → wY_reached_43 post (nI n) (d + 1) (nI i) g_types g_methods g_place g_result g_linked g_bad g_high g_refs g_active g_ticks g_code b_above b_ownField b_mType b_mName b_mLength b_bytes b_starts b_seen b_done b_heights b_local b_sure b_objType b_objField ym b_global b_fMethod b_fPc b_fHigh b_fLocal b_fEntry := by
  intro d
  induction d with
  | zero =>
    intro i hi ym M h
    refine ⟨ym, h, fun post J => ?_⟩
    unfold wY_reached_43
    simp (disch := omega) only [nI_clamp, gm_clL, gm_in, gm_inL, gm_ml, gm_al, gm_la, gm_sl, nI_add, pk_mul, gm_eqL, gm_leL, gm_ltL, gm_Lle, gm_Llt, gm_eq, gm_le, gm_lt, gm_m1, forall_eq, true_and, Nat.not_lt_zero, Nat.add_sub_cancel, gm_z2, gm_z3, gm_z9, gm_z16, gm_z18, gm_z32, gm_z36, gm_z64, gm_z1152, not_true_eq_false, not_false_eq_true, false_implies, true_implies, and_true, implies_true]
    exact ⟨fun _ => J, fun z => absurd (show n * 9 ≤ i by omega) z⟩
  | succ d ih =>
    intro i hi ym M h
    obtain ⟨f, s, hs9, rfl⟩ : ∃ f s, s < 9 ∧ i = f * 9 + s := ⟨i / 9, i % 9, by omega, by omega⟩
    obtain ⟨m, p, hf, hm, hp, h5, -, e1, -, e2, -, e3, hs, hz⟩ := R f (by omega)
    have q1 : (f * 9 + s) / 9 = f := by omega
    have q2 : f * 9 + s - f * 9 = s := by omega
    rw [itr_s, rtG_at rv hs9]
    have skip : rv f s = 0 → ∃ ym', YM ym' (itr (rtG rv) d (f * 9 + s + 1) (mk1 M (rv f s))) ∧ ∀ post, (∃ n161, wY_reached_161 post n161 0 g_types g_methods g_place g_result g_linked g_bad g_high g_refs g_active g_ticks g_code b_above b_ownField b_mType b_mName b_mLength b_bytes b_starts b_seen b_done b_heights b_local b_sure b_objType b_objField ym' b_global b_fMethod b_fPc b_fHigh b_fLocal b_fEntry) → wY_reached_43 post (nI n) d.succ (nI (f * 9 + s + 1)) g_types g_methods g_place g_result g_linked g_bad g_high g_refs g_active g_ticks g_code b_above b_ownField b_mType b_mName b_mLength b_bytes b_starts b_seen b_done b_heights b_local b_sure b_objType b_objField ym b_global b_fMethod b_fPc b_fHigh b_fLocal b_fEntry := by
      intro e
      rw [e, mk1_0]
      obtain ⟨ym', c1, c2⟩ := ih (f * 9 + s + 1) (by omega) ym M h
      exact ⟨ym', c1, c2⟩
    by_cases hb : bt (b_sure (m * 32 + p)) s = false
    · have e0 : rv f s = 0 := by
        by_cases hh : s < 4 + hf
        · obtain ⟨a1, a2, a3⟩ := hs s hh
          refine a3 (fun z => ?_)
          rw [a1.mp z] at hb
          exact nomatch hb
        · exact hz s (by omega)
      obtain ⟨ym', c1, c2⟩ := skip e0
      refine ⟨ym', c1, fun post J => ?_⟩
      unfold wY_reached_43
      simp (disch := omega) only [nI_clamp, gm_clL, gm_in, gm_inL, gm_ml, gm_al, gm_la, gm_sl, nI_add, pk_mul, gm_eqL, gm_leL, gm_ltL, gm_Lle, gm_Llt, gm_eq, gm_le, gm_lt, gm_m1, forall_eq, true_and, Nat.not_lt_zero, Nat.add_sub_cancel, gm_z2, gm_z3, gm_z9, gm_z16, gm_z18, gm_z32, gm_z36, gm_z64, gm_z1152, not_true_eq_false, not_false_eq_true, false_implies, true_implies, and_true, implies_true, gm_dl, gm_sb, q1, q2, e1, e2, gm_bit0]
      exact ⟨fun z => absurd z (by omega), fun _ => br_t hb (c2 post J)⟩
    · have hb1 : bt (b_sure (m * 32 + p)) s = true := by
        cases h : bt (b_sure (m * 32 + p)) s
        · exact absurd h hb
        · rfl
      by_cases h4 : 4 ≤ s
      · by_cases hh : s < 4 + hf
        · obtain ⟨a1, a2, a3⟩ := hs s hh
          obtain ⟨b1, b2, b3⟩ := a2 (a1.mpr hb1)
          unfold ysl at b2
          rw [if_neg (by omega)] at b2
          have q3 : f * 6 + s - 4 = f * 6 + (s - 4) := by omega
          obtain ⟨ym', c1, c2⟩ : ∃ ym', YM ym' (mk1 M (rv f s)) ∧ ∀ post : SY → Prop, post (g_types, g_methods, g_place, g_result, g_linked, g_bad, g_high, g_refs, g_active, g_ticks, g_code, b_above, b_ownField, b_mType, b_mName, b_mLength, b_bytes, b_starts, b_seen, b_done, b_heights, b_local, b_sure, b_objType, b_objField, ym', b_global, b_fMethod, b_fPc, b_fHigh, b_fLocal, b_fEntry) → wpY_mark post (g_types, g_methods, g_place, g_result, g_linked, g_bad, g_high, g_refs, g_active, g_ticks, g_code, b_above, b_ownField, b_mType, b_mName, b_mLength, b_bytes, b_starts, b_seen, b_done, b_heights, b_local, b_sure, b_objType, b_objField, ym, b_global, b_fMethod, b_fPc, b_fHigh, b_fLocal, b_fEntry) (yR (rv f s)) := by
            cases hr : rv f s with
            | zero => exact ⟨ym, by rw [mk1_0]; exact h, fun post J => br_t (by rw [yR_0]; decide) J⟩
            | succ k =>
              refine ⟨upd ym k 1, YM_up h k, fun post J => ?_⟩
              rw [yR_s]
              refine br_f (nI_pos (by omega)) ⟨vp_in_nI (by omega) (by omega), nm_e ?_⟩
              rw [nI_clamp (by omega), gm_nb1]
              exact J
          obtain ⟨ym2, d1, d2⟩ := ih (f * 9 + s + 1) (by omega) ym' _ c1
          refine ⟨ym2, d1, fun post J => ?_⟩
          unfold wY_reached_43
          simp (disch := omega) only [nI_clamp, gm_clL, gm_in, gm_inL, gm_ml, gm_al, gm_la, gm_sl, nI_add, pk_mul, gm_eqL, gm_leL, gm_ltL, gm_Lle, gm_Llt, gm_eq, gm_le, gm_lt, gm_m1, forall_eq, true_and, Nat.not_lt_zero, Nat.add_sub_cancel, gm_z2, gm_z3, gm_z9, gm_z16, gm_z18, gm_z32, gm_z36, gm_z64, gm_z1152, not_true_eq_false, not_false_eq_true, false_implies, true_implies, and_true, implies_true, gm_dl, gm_sb, q1, q2, q3, e1, e2, e3, gm_bit0, b2]
          refine ⟨fun z => absurd z (by omega), fun _ => br_f hb ⟨fun _ => ⟨fun z => absurd z (by omega), fun _ => c2 _ (d2 post J)⟩, fun z => absurd h4 z⟩⟩
        · obtain ⟨ym', c1, c2⟩ := skip (hz s (by omega))
          refine ⟨ym', c1, fun post J => ?_⟩
          unfold wY_reached_43
          simp (disch := omega) only [nI_clamp, gm_clL, gm_in, gm_inL, gm_ml, gm_al, gm_la, gm_sl, nI_add, pk_mul, gm_eqL, gm_leL, gm_ltL, gm_Lle, gm_Llt, gm_eq, gm_le, gm_lt, gm_m1, forall_eq, true_and, Nat.not_lt_zero, Nat.add_sub_cancel, gm_z2, gm_z3, gm_z9, gm_z16, gm_z18, gm_z32, gm_z36, gm_z64, gm_z1152, not_true_eq_false, not_false_eq_true, false_implies, true_implies, and_true, implies_true, gm_dl, gm_sb, q1, q2, e1, e2, e3, gm_bit0]
          refine ⟨fun z => absurd z (by omega), fun _ => br_f hb ⟨fun _ => ⟨fun _ => c2 post J, fun z => absurd (by omega) z⟩, fun z => absurd h4 z⟩⟩
      · obtain ⟨a1, a2, a3⟩ := hs s (by omega)
        obtain ⟨b1, b2, b3⟩ := a2 (a1.mpr hb1)
        unfold ysl at b2
        rw [if_pos (by omega)] at b2
        obtain ⟨ym', c1, c2⟩ : ∃ ym', YM ym' (mk1 M (rv f s)) ∧ ∀ post : SY → Prop, post (g_types, g_methods, g_place, g_result, g_linked, g_bad, g_high, g_refs, g_active, g_ticks, g_code, b_above, b_ownField, b_mType, b_mName, b_mLength, b_bytes, b_starts, b_seen, b_done, b_heights, b_local, b_sure, b_objType, b_objField, ym', b_global, b_fMethod, b_fPc, b_fHigh, b_fLocal, b_fEntry) → wpY_mark post (g_types, g_methods, g_place, g_result, g_linked, g_bad, g_high, g_refs, g_active, g_ticks, g_code, b_above, b_ownField, b_mType, b_mName, b_mLength, b_bytes, b_starts, b_seen, b_done, b_heights, b_local, b_sure, b_objType, b_objField, ym, b_global, b_fMethod, b_fPc, b_fHigh, b_fLocal, b_fEntry) (yR (rv f s)) := by
          cases hr : rv f s with
          | zero => exact ⟨ym, by rw [mk1_0]; exact h, fun post J => br_t (by rw [yR_0]; decide) J⟩
          | succ k =>
            refine ⟨upd ym k 1, YM_up h k, fun post J => ?_⟩
            rw [yR_s]
            refine br_f (nI_pos (by omega)) ⟨vp_in_nI (by omega) (by omega), nm_e ?_⟩
            rw [nI_clamp (by omega), gm_nb1]
            exact J
        obtain ⟨ym2, d1, d2⟩ := ih (f * 9 + s + 1) (by omega) ym' _ c1
        refine ⟨ym2, d1, fun post J => ?_⟩
        unfold wY_reached_43
        simp (disch := omega) only [nI_clamp, gm_clL, gm_in, gm_inL, gm_ml, gm_al, gm_la, gm_sl, nI_add, pk_mul, gm_eqL, gm_leL, gm_ltL, gm_Lle, gm_Llt, gm_eq, gm_le, gm_lt, gm_m1, forall_eq, true_and, Nat.not_lt_zero, Nat.add_sub_cancel, gm_z2, gm_z3, gm_z9, gm_z16, gm_z18, gm_z32, gm_z36, gm_z64, gm_z1152, not_true_eq_false, not_false_eq_true, false_implies, true_implies, and_true, implies_true, gm_dl, gm_sb, q1, q2, e1, e2, e3, gm_bit0, b2]
        refine ⟨fun z => absurd z (by omega), fun _ => br_f hb ⟨fun z => absurd z h4, fun _ => c2 _ (d2 post J)⟩⟩
