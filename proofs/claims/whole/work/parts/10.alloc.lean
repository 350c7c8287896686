theorem ev_al63 (f_typeCount f_methodCount f_linked f_faultPlace f_flowHeight f_active f_ticksLeft f_outcome f_latestResult : Int32) (a_typeAbove a_fieldSet a_methodType a_methodName a_codeLength a_bytes a_isStart a_heightAt a_kindsAt a_isWaiting a_flowKinds a_globals a_objectType a_isMarked a_frameMethod a_frameAt a_frameHeight a_slots : Nat → Int32) {l : Nat} (hl : l < 10) : ∀ d j, j + d = 16 → ∀ fv : Nat → Int32, ∃ fv' : Nat → Int32, (∀ i, i < (l + 1) * 16 + j ∨ (l + 1) * 16 + 16 ≤ i → fv' i = fv i) ∧ (∀ f, j ≤ f → f < 16 → fv' ((l + 1) * 16 + f) = 0) ∧ ∀ post : Int32 → SX → Prop, post (nI (l + 1)) (f_typeCount, f_methodCount, f_linked, f_faultPlace, f_flowHeight, f_active, f_ticksLeft, f_outcome, f_latestResult, a_typeAbove, a_fieldSet, a_methodType, a_methodName, a_codeLength, a_bytes, a_isStart, a_heightAt, a_kindsAt, a_isWaiting, a_flowKinds, a_globals, a_objectType, fv', a_isMarked, a_frameMethod, a_frameAt, a_frameHeight, a_slots) → wX_allocate_63 post (nI (l + 1)) f_typeCount f_methodCount f_linked f_faultPlace f_flowHeight f_active f_ticksLeft f_outcome f_latestResult (d + 1) (nI j) a_typeAbove a_fieldSet a_methodType a_methodName a_codeLength a_bytes a_isStart a_heightAt a_kindsAt a_isWaiting a_flowKinds a_globals a_objectType fv a_isMarked a_frameMethod a_frameAt a_frameHeight a_slots := by
  intro d
  induction d with
  | zero =>
    intro j hj fv
    cases (show j = 16 by omega)
    refine ⟨fv, fun _ _ => rfl, fun f h1 h2 => absurd h2 (by omega), fun post J => ?_⟩
    unfold wX_allocate_63
    exact br_t (by decide) J
  | succ d ih =>
    intro j hj fv
    obtain ⟨fv', h1, h2, h3⟩ := ih (j + 1) (by omega) (upd fv ((l + 1) * 16 + j) 0)
    refine ⟨fv', fun i hi => ?_, fun f hf hf2 => ?_, fun post J => ?_⟩
    · rw [h1 i (by omega), pk_un (by omega)]
    · by_cases e : f = j
      · subst e
        rw [h1 _ (by omega), pk_us]
      · exact h2 f (by omega) hf2
    · unfold wX_allocate_63
      simp (disch := omega) only [nI_clamp, gm_clL, gm_in, gm_inL, gm_ml, gm_al, gm_la, gm_sl, nI_add, pk_mul, gm_eqL, gm_leL, gm_ltL, gm_Lle, gm_Llt, gm_eq, gm_le, gm_lt, gm_m1, forall_eq, true_and, Nat.not_lt_zero, Nat.add_sub_cancel, gm_z2, gm_z3, gm_z9, gm_z16, gm_z18, gm_z32, gm_z36, gm_z64, gm_z1152, not_true_eq_false, not_false_eq_true, false_implies, true_implies, and_true, implies_true]
      exact ⟨fun z => absurd z (by omega), fun _ => h3 post J⟩
theorem ev_al23 (f_typeCount f_methodCount f_linked f_faultPlace f_flowHeight f_active f_ticksLeft f_outcome f_latestResult : Int32) (a_typeAbove a_fieldSet a_methodType a_methodName a_codeLength a_bytes a_isStart a_heightAt a_kindsAt a_isWaiting a_flowKinds a_globals a_objectType a_fieldValue a_isMarked a_frameMethod a_frameAt a_frameHeight a_slots : Nat → Int32) {l t : Nat} {M : Nat → Bool} {post : Int32 → SX → Prop} (hl : l < 10) (hX : XM a_isMarked M) (hM : M l = false) (hlt : ∀ o, o < l → M o = true) (J : ∃ n63, wX_allocate_63 post (nI (l + 1)) f_typeCount f_methodCount f_linked f_faultPlace f_flowHeight f_active f_ticksLeft f_outcome f_latestResult n63 0 a_typeAbove a_fieldSet a_methodType a_methodName a_codeLength a_bytes a_isStart a_heightAt a_kindsAt a_isWaiting a_flowKinds a_globals (upd a_objectType (l + 1) (nI t)) a_fieldValue a_isMarked a_frameMethod a_frameAt a_frameHeight a_slots) :
    ∀ d o, o + d = l → wX_allocate_23 post (nI t) f_typeCount f_methodCount f_linked f_faultPlace f_flowHeight f_active f_ticksLeft f_outcome f_latestResult a_typeAbove a_fieldSet a_methodType a_methodName a_codeLength a_bytes a_isStart a_heightAt a_kindsAt a_isWaiting a_flowKinds a_globals a_objectType a_fieldValue a_isMarked a_frameMethod a_frameAt a_frameHeight a_slots (d + 2) 0 (nI (o + 1)) := by
  intro d
  induction d with
  | zero =>
    intro o ho
    cases (show o = l by omega)
    have hx := hX l hl
    rw [hM] at hx
    have e : a_isMarked (l + 1) = 0 := hx
    unfold wX_allocate_23
    simp (disch := omega) only [nI_clamp, gm_clL, gm_in, gm_inL, gm_ml, gm_al, gm_la, gm_sl, nI_add, pk_mul, gm_eqL, gm_leL, gm_ltL, gm_Lle, gm_Llt, gm_eq, gm_le, gm_lt, gm_m1, forall_eq, true_and, Nat.not_lt_zero, Nat.add_sub_cancel, gm_z2, gm_z3, gm_z9, gm_z16, gm_z18, gm_z32, gm_z36, gm_z64, gm_z1152, not_true_eq_false, not_false_eq_true, false_implies, true_implies, and_true, implies_true, e]
    refine ⟨fun z => absurd z (by omega), fun _ => ?_⟩
    unfold wX_allocate_23
    simp (disch := omega) only [nI_clamp, gm_clL, gm_in, gm_inL, gm_ml, gm_al, gm_la, gm_sl, nI_add, pk_mul, gm_eqL, gm_leL, gm_ltL, gm_Lle, gm_Llt, gm_eq, gm_le, gm_lt, gm_m1, forall_eq, true_and, Nat.not_lt_zero, Nat.add_sub_cancel, gm_z2, gm_z3, gm_z9, gm_z16, gm_z18, gm_z32, gm_z36, gm_z64, gm_z1152, not_true_eq_false, not_false_eq_true, false_implies, true_implies, and_true, implies_true]
    refine ⟨fun _ => J, fun _ => ⟨fun z => absurd z (by omega), fun _ => J⟩⟩
  | succ d ih =>
    intro o ho
    have hx := hX o (by omega)
    rw [hlt o (by omega)] at hx
    have e : ¬ a_isMarked (o + 1) = 0 := by rw [hx]; decide
    unfold wX_allocate_23
    simp (disch := omega) only [nI_clamp, gm_clL, gm_in, gm_inL, gm_ml, gm_al, gm_la, gm_sl, nI_add, pk_mul, gm_eqL, gm_leL, gm_ltL, gm_Lle, gm_Llt, gm_eq, gm_le, gm_lt, gm_m1, forall_eq, true_and, Nat.not_lt_zero, Nat.add_sub_cancel, gm_z2, gm_z3, gm_z9, gm_z16, gm_z18, gm_z32, gm_z36, gm_z64, gm_z1152, not_true_eq_false, not_false_eq_true, false_implies, true_implies, and_true, implies_true, e]
    exact ⟨fun z => absurd z (by omega), fun _ => ih (o + 1) (by omega)⟩
theorem ev_mk51 (g_types g_methods g_place g_result g_linked g_bad g_high g_refs g_active g_ticks g_code : Int32) (b_above b_ownField b_mType b_mName b_mLength b_bytes b_starts : Nat → Int32) (b_seen b_done : Nat → Int64) (b_heights b_local b_sure b_objType b_marked b_global b_fMethod b_fPc b_fHigh b_fLocal b_fEntry : Nat → Int32) {l : Nat} (hl : l < 10) : ∀ d j, j + d = 16 → ∀ fv : Nat → Int32, ∃ fv' : Nat → Int32, (∀ i, i < l * 16 + j ∨ l * 16 + 16 ≤ i → fv' i = fv i) ∧ (∀ f, j ≤ f → f < 16 → fv' (l * 16 + f) = if f < 8 then 0 else -1) ∧ ∀ post : Int32 → SY → Prop, post (nI l) (g_types, g_methods, g_place, g_result, g_linked, g_bad, g_high, g_refs, g_active, g_ticks, g_code, b_above, b_ownField, b_mType, b_mName, b_mLength, b_bytes, b_starts, b_seen, b_done, b_heights, b_local, b_sure, b_objType, fv', b_marked, b_global, b_fMethod, b_fPc, b_fHigh, b_fLocal, b_fEntry) → wY_make_51 post (nI l) g_types g_methods g_place g_result g_linked g_bad g_high g_refs g_active g_ticks g_code (d + 1) (nI j) b_above b_ownField b_mType b_mName b_mLength b_bytes b_starts b_seen b_done b_heights b_local b_sure b_objType fv b_marked b_global b_fMethod b_fPc b_fHigh b_fLocal b_fEntry := by
  intro d
  induction d with
  | zero =>
    intro j hj fv
    cases (show j = 16 by omega)
    refine ⟨fv, fun _ _ => rfl, fun f h1 h2 => absurd h2 (by omega), fun post J => ?_⟩
    unfold wY_make_51
    exact br_t (by decide) J
  | succ d ih =>
    intro j hj fv
    obtain ⟨fv', h1, h2, h3⟩ := ih (j + 1) (by omega) (upd fv (l * 16 + j) (if j < 8 then 0 else -1))
    refine ⟨fv', fun i hi => ?_, fun f hf hf2 => ?_, fun post J => ?_⟩
    · rw [h1 i (by omega), pk_un (by omega)]
    · by_cases e : f = j
      · subst e
        rw [h1 _ (by omega), pk_us]
      · exact h2 f (by omega) hf2
    · have h4 := h3 post J
      unfold wY_make_51
      simp (disch := omega) only [nI_clamp, gm_clL, gm_in, gm_inL, gm_ml, gm_al, gm_la, gm_sl, nI_add, pk_mul, gm_eqL, gm_leL, gm_ltL, gm_Lle, gm_Llt, gm_eq, gm_le, gm_lt, gm_m1, forall_eq, true_and, Nat.not_lt_zero, Nat.add_sub_cancel, gm_z2, gm_z3, gm_z9, gm_z16, gm_z18, gm_z32, gm_z36, gm_z64, gm_z1152, not_true_eq_false, not_false_eq_true, false_implies, true_implies, and_true, implies_true]
      refine ⟨fun z => absurd z (by omega), fun _ => ⟨fun z => ?_, fun z => ?_⟩⟩
      · rw [if_neg (by omega)] at h4; exact h4
      · rw [if_pos (by omega)] at h4; exact h4
theorem ev_mk17 (g_types g_methods g_place g_result g_linked g_bad g_high g_refs g_active g_ticks g_code : Int32) (b_above b_ownField b_mType b_mName b_mLength b_bytes b_starts : Nat → Int32) (b_seen b_done : Nat → Int64) (b_heights b_local b_sure b_objType b_objField b_marked b_global b_fMethod b_fPc b_fHigh b_fLocal b_fEntry : Nat → Int32) {l t : Nat} {M : Nat → Bool} {post : Int32 → SY → Prop} (hl : l < 10) (hY : YM b_marked M) (hM : M l = false) (hlt : ∀ o, o < l → M o = true) (J : ∃ n51, wY_make_51 post (nI l) g_types g_methods g_place g_result g_linked g_bad g_high g_refs g_active g_ticks g_code n51 0 b_above b_ownField b_mType b_mName b_mLength b_bytes b_starts b_seen b_done b_heights b_local b_sure (upd b_objType l (nI t)) b_objField b_marked b_global b_fMethod b_fPc b_fHigh b_fLocal b_fEntry) :
    ∀ d o, o + d = l → wY_make_17 post (nI t) g_types g_methods g_place g_result g_linked g_bad g_high g_refs g_active g_ticks g_code b_above b_ownField b_mType b_mName b_mLength b_bytes b_starts b_seen b_done b_heights b_local b_sure b_objType b_objField b_marked b_global b_fMethod b_fPc b_fHigh b_fLocal b_fEntry (d + 1) (nI o) := by
  intro d
  induction d with
  | zero =>
    intro o ho
    cases (show o = l by omega)
    have hx := hY l hl
    rw [hM] at hx
    have e : b_marked l = 0 := hx
    unfold wY_make_17
    simp (disch := omega) only [nI_clamp, gm_clL, gm_in, gm_inL, gm_ml, gm_al, gm_la, gm_sl, nI_add, pk_mul, gm_eqL, gm_leL, gm_ltL, gm_Lle, gm_Llt, gm_eq, gm_le, gm_lt, gm_m1, forall_eq, true_and, Nat.not_lt_zero, Nat.add_sub_cancel, gm_z2, gm_z3, gm_z9, gm_z16, gm_z18, gm_z32, gm_z36, gm_z64, gm_z1152, not_true_eq_false, not_false_eq_true, false_implies, true_implies, and_true, implies_true, e]
    exact ⟨fun _ => J, fun _ => J⟩
  | succ d ih =>
    intro o ho
    have hx := hY o (by omega)
    rw [hlt o (by omega)] at hx
    have e : ¬ b_marked o = 0 := by rw [hx]; decide
    unfold wY_make_17
    simp (disch := omega) only [nI_clamp, gm_clL, gm_in, gm_inL, gm_ml, gm_al, gm_la, gm_sl, nI_add, pk_mul, gm_eqL, gm_leL, gm_ltL, gm_Lle, gm_Llt, gm_eq, gm_le, gm_lt, gm_m1, forall_eq, true_and, Nat.not_lt_zero, Nat.add_sub_cancel, gm_z2, gm_z3, gm_z9, gm_z16, gm_z18, gm_z32, gm_z36, gm_z64, gm_z1152, not_true_eq_false, not_false_eq_true, false_implies, true_implies, and_true, implies_true, e]
    exact ⟨fun z => absurd z (by omega), fun _ => ih (o + 1) (by omega)⟩
theorem rl_Ha {h tc t l : Nat} {fs gl ot fv yg yt yf fv' yf' : Nat → Int32} (H : rl_H h tc fs gl ot fv yg yt yf) (ht : t < tc) (hl : l < 10) (hlh : l ≤ h)
    (a1 : ∀ i, i < (l + 1) * 16 + 0 ∨ (l + 1) * 16 + 16 ≤ i → fv' i = fv i) (a2 : ∀ f, 0 ≤ f → f < 16 → fv' ((l + 1) * 16 + f) = 0) (b1 : ∀ i, i < l * 16 + 0 ∨ l * 16 + 16 ≤ i → yf' i = yf i) (b2 : ∀ f, 0 ≤ f → f < 16 → yf' (l * 16 + f) = if f < 8 then 0 else -1) :
    ∃ h', h ≤ h' ∧ l < h' ∧ rl_H h' tc fs gl (upd ot (l + 1) (nI t)) fv' yg (upd yt l (nI t)) yf' := by
  obtain ⟨h10, hg, ho⟩ := H
  refine ⟨if l = h then h + 1 else h, by split <;> omega, by split <;> omega, by split <;> omega, fun g hg2 => ?_, fun o hoh => ?_⟩
  · obtain ⟨r, hr, q⟩ := hg g hg2
    exact ⟨r, by split <;> omega, q⟩
  · by_cases e : o = l
    · subst e
      refine ⟨t, ht, pk_us, pk_us, fun f h8 => ?_, fun f h8 h16 => ⟨0, by omega, a2 f (by omega) h16, ?_, fun _ => rfl⟩⟩
      · rw [a2 f (by omega) (by omega), b2 f (by omega) (by omega), if_pos h8]
      · rw [b2 f (by omega) h16, if_neg (by omega), yR_0]
    · obtain ⟨t', ht', t1, t2, f1, f2⟩ := ho o (by split at hoh <;> omega)
      refine ⟨t', ht', by rw [pk_un (by omega)]; exact t1, by rw [pk_un e]; exact t2, fun f h8 => ?_, fun f h8 h16 => ?_⟩
      · rw [a1 _ (by omega), b1 _ (by omega)]
        exact f1 f h8
      · obtain ⟨r, hr, q1, q2, q3⟩ := f2 f h8 h16
        exact ⟨r, by split <;> omega, by rw [a1 _ (by omega)]; exact q1, by rw [b1 _ (by omega)]; exact q2, q3⟩
/-- a new object on both sides -/
theorem al_both (f_typeCount f_methodCount f_linked f_faultPlace f_flowHeight f_ticksLeft f_outcome f_latestResult : Int32) (a_typeAbove a_fieldSet a_methodType a_methodName a_codeLength a_bytes a_isStart a_heightAt a_kindsAt a_isWaiting a_flowKinds a_globals a_objectType a_fieldValue a_isMarked a_frameMethod a_frameAt a_frameHeight a_slots : Nat → Int32) (g_types g_methods g_place g_result g_linked g_bad g_high g_refs g_active g_ticks g_code : Int32) (b_above b_ownField b_mType b_mName b_mLength b_bytes b_starts : Nat → Int32) (b_seen b_done : Nat → Int64) (b_heights b_local b_sure b_objType b_objField b_marked b_global b_fMethod b_fPc b_fHigh b_fLocal b_fEntry : Nat → Int32) {h tc mc n t : Nat} {rv : Nat → Nat → Nat} {mN mL by' : Nat → Int32} (P : rl_P tc mc b_above a_fieldSet b_ownField mN mL by') (H : rl_H h tc a_fieldSet a_globals a_objectType a_fieldValue b_global b_objType b_objField)
    (hn : n ≤ 6) (R : RtOK n rv a_kindsAt b_sure a_frameMethod a_frameAt a_frameHeight a_slots b_fMethod b_fPc b_fHigh b_fLocal b_fEntry) (hr : ∀ f s, rv f s ≤ h) (ht : t < tc) :
    (∃ xm ym, (∀ post : Int32 → SX → Prop, post 0 (f_typeCount, f_methodCount, f_linked, f_faultPlace, f_flowHeight, nI n, f_ticksLeft, f_outcome, f_latestResult, a_typeAbove, a_fieldSet, a_methodType, a_methodName, a_codeLength, a_bytes, a_isStart, a_heightAt, a_kindsAt, a_isWaiting, a_flowKinds, a_globals, a_objectType, a_fieldValue, xm, a_frameMethod, a_frameAt, a_frameHeight, a_slots) → wpX_allocate post (f_typeCount, f_methodCount, f_linked, f_faultPlace, f_flowHeight, nI n, f_ticksLeft, f_outcome, f_latestResult, a_typeAbove, a_fieldSet, a_methodType, a_methodName, a_codeLength, a_bytes, a_isStart, a_heightAt, a_kindsAt, a_isWaiting, a_flowKinds, a_globals, a_objectType, a_fieldValue, a_isMarked, a_frameMethod, a_frameAt, a_frameHeight, a_slots) (nI t)) ∧ (∀ post : Int32 → SY → Prop, post (-1) (g_types, g_methods, g_place, g_result, g_linked, g_bad, g_high, g_refs, g_active, g_ticks, g_code, b_above, b_ownField, b_mType, b_mName, b_mLength, b_bytes, b_starts, b_seen, b_done, b_heights, b_local, b_sure, b_objType, b_objField, ym, b_global, b_fMethod, b_fPc, b_fHigh, b_fLocal, b_fEntry) → wpY_make post (g_types, g_methods, g_place, g_result, g_linked, g_bad, g_high, g_refs, g_active, g_ticks, g_code, b_above, b_ownField, b_mType, b_mName, b_mLength, b_bytes, b_starts, b_seen, b_done, b_heights, b_local, b_sure, b_objType, b_objField, b_marked, b_global, b_fMethod, b_fPc, b_fHigh, b_fLocal, b_fEntry) (nI t) (nI n))) ∨
    (∃ xm ym l h' ot fv yt yf, l < 10 ∧ h ≤ h' ∧ l < h' ∧ rl_H h' tc a_fieldSet a_globals ot fv b_global yt yf ∧ ot (l + 1) = nI t ∧ (∀ post : Int32 → SX → Prop, post (nI (l + 1)) (f_typeCount, f_methodCount, f_linked, f_faultPlace, f_flowHeight, nI n, f_ticksLeft, f_outcome, f_latestResult, a_typeAbove, a_fieldSet, a_methodType, a_methodName, a_codeLength, a_bytes, a_isStart, a_heightAt, a_kindsAt, a_isWaiting, a_flowKinds, a_globals, ot, fv, xm, a_frameMethod, a_frameAt, a_frameHeight, a_slots) → wpX_allocate post (f_typeCount, f_methodCount, f_linked, f_faultPlace, f_flowHeight, nI n, f_ticksLeft, f_outcome, f_latestResult, a_typeAbove, a_fieldSet, a_methodType, a_methodName, a_codeLength, a_bytes, a_isStart, a_heightAt, a_kindsAt, a_isWaiting, a_flowKinds, a_globals, a_objectType, a_fieldValue, a_isMarked, a_frameMethod, a_frameAt, a_frameHeight, a_slots) (nI t)) ∧ (∀ post : Int32 → SY → Prop, post (nI l) (g_types, g_methods, g_place, g_result, g_linked, g_bad, g_high, g_refs, g_active, g_ticks, g_code, b_above, b_ownField, b_mType, b_mName, b_mLength, b_bytes, b_starts, b_seen, b_done, b_heights, b_local, b_sure, yt, yf, ym, b_global, b_fMethod, b_fPc, b_fHigh, b_fLocal, b_fEntry) → wpY_make post (g_types, g_methods, g_place, g_result, g_linked, g_bad, g_high, g_refs, g_active, g_ticks, g_code, b_above, b_ownField, b_mType, b_mName, b_mLength, b_bytes, b_starts, b_seen, b_done, b_heights, b_local, b_sure, b_objType, b_objField, b_marked, b_global, b_fMethod, b_fPc, b_fHigh, b_fLocal, b_fEntry) (nI t) (nI n))) := by
  obtain ⟨F, G, g0, g1, h0, h1, e0, e1, y0, y1⟩ := hp_F H
  obtain ⟨xm, a1, a2⟩ := ev_xmark f_typeCount f_methodCount f_linked f_faultPlace f_flowHeight f_ticksLeft f_outcome f_latestResult a_typeAbove a_fieldSet a_methodType a_methodName a_codeLength a_bytes a_isStart a_heightAt a_kindsAt a_isWaiting a_flowKinds a_globals a_objectType a_fieldValue a_isMarked a_frameMethod a_frameAt a_frameHeight a_slots F hn R e0 e1 h0 h1 hr
  obtain ⟨ym, b1, b2⟩ := ev_reached g_types g_methods g_place g_result g_linked g_bad g_high g_refs g_active g_ticks g_code b_above b_ownField b_mType b_mName b_mLength b_bytes b_starts b_seen b_done b_heights b_local b_sure b_objType b_objField b_marked b_global b_fMethod b_fPc b_fHigh b_fLocal b_fEntry F G P hn R y0 y1 h0 h1 hr
  have hMI := (MI_fin (n := n) F h0 h1 hr).2
  generalize hfin : mfin g0 g1 rv (fun o f => gm_n (a_fieldValue ((o + 1) * 16 + f))) n = M at a1 b1 b2 hMI
  have hc := cb_le M 10
  by_cases hc10 : cb M 10 = 10
  · refine Or.inl ⟨xm, ym, fun post J => ?_, fun post J => ?_⟩
    · unfold wpX_allocate
      refine a2 _ (ev_countMarked f_typeCount f_methodCount f_linked f_faultPlace f_flowHeight (nI n) f_ticksLeft f_outcome f_latestResult a_typeAbove a_fieldSet a_methodType a_methodName a_codeLength a_bytes a_isStart a_heightAt a_kindsAt a_isWaiting a_flowKinds a_globals a_objectType a_fieldValue xm a_frameMethod a_frameAt a_frameHeight a_slots a1 (br_f ?_ J))
      rw [hc10]; decide
    · unfold wpY_make
      refine b2 _ (br_t ?_ J)
      rw [hc10]; rfl
  · obtain ⟨l, hl, hM, hlt⟩ := cb_lt (show cb M 10 < 10 by omega)
    have hlh : l ≤ h := by
      rcases Nat.lt_or_ge h l with z | z
      · exact absurd (hMI h (hlt h z)) (by omega)
      · exact z
    obtain ⟨fv', c1, c2, c3⟩ := ev_al63 f_typeCount f_methodCount f_linked f_faultPlace f_flowHeight (nI n) f_ticksLeft f_outcome f_latestResult a_typeAbove a_fieldSet a_methodType a_methodName a_codeLength a_bytes a_isStart a_heightAt a_kindsAt a_isWaiting a_flowKinds a_globals (upd a_objectType (l + 1) (nI t)) xm a_frameMethod a_frameAt a_frameHeight a_slots hl 16 0 rfl a_fieldValue
    obtain ⟨yf', d1, d2, d3⟩ := ev_mk51 g_types g_methods g_place g_result g_linked g_bad g_high g_refs g_active g_ticks g_code b_above b_ownField b_mType b_mName b_mLength b_bytes b_starts b_seen b_done b_heights b_local b_sure (upd b_objType l (nI t)) ym b_global b_fMethod b_fPc b_fHigh b_fLocal b_fEntry hl 16 0 rfl b_objField
    obtain ⟨h', k1, k2, k3⟩ := rl_Ha H ht hl hlh c1 c2 d1 d2
    refine Or.inr ⟨xm, ym, l, h', _, fv', _, yf', hl, k1, k2, k3, pk_us, fun post J => ?_, fun post J => ?_⟩
    · unfold wpX_allocate
      refine a2 _ (ev_countMarked f_typeCount f_methodCount f_linked f_faultPlace f_flowHeight (nI n) f_ticksLeft f_outcome f_latestResult a_typeAbove a_fieldSet a_methodType a_methodName a_codeLength a_bytes a_isStart a_heightAt a_kindsAt a_isWaiting a_flowKinds a_globals a_objectType a_fieldValue xm a_frameMethod a_frameAt a_frameHeight a_slots a1 (br_t (nI_lt (b := 10) (by omega) (by decide)) ⟨l + 2, ?_⟩))
      exact ev_al23 f_typeCount f_methodCount f_linked f_faultPlace f_flowHeight (nI n) f_ticksLeft f_outcome f_latestResult a_typeAbove a_fieldSet a_methodType a_methodName a_codeLength a_bytes a_isStart a_heightAt a_kindsAt a_isWaiting a_flowKinds a_globals a_objectType a_fieldValue xm a_frameMethod a_frameAt a_frameHeight a_slots hl a1 hM hlt ⟨17, c3 post J⟩ l 0 (by omega)
    · unfold wpY_make
      refine b2 _ (br_f (by rw [gm_eqL (by omega) (by omega)]; exact hc10) ⟨l + 1, ?_⟩)
      exact ev_mk17 g_types g_methods g_place g_result g_linked g_bad g_high g_refs g_active g_ticks g_code b_above b_ownField b_mType b_mName b_mLength b_bytes b_starts b_seen b_done b_heights b_local b_sure b_objType b_objField ym b_global b_fMethod b_fPc b_fHigh b_fLocal b_fEntry hl b1 hM hlt ⟨17, d3 post J⟩ l 0 (by omega)
