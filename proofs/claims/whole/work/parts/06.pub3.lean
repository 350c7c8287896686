/-! ===== the search for a method ===== -/
def fo (mT mN : Nat → Int32) (x y : Int32) : Nat → Nat → Option Nat
  | 0, _ => none
  | d + 1, j => if mT j = x ∧ mN j = y then some j else fo mT mN x y d (j + 1)
theorem fo_s (mT mN : Nat → Int32) (x y : Int32) (d j : Nat) : fo mT mN x y (d + 1) j = if mT j = x ∧ mN j = y then some j else fo mT mN x y d (j + 1) := rfl
def foE (r : Option Nat) : Int32 := match r with
  | none => -1
  | some m => nI m
theorem fo_some {mT mN : Nat → Int32} {x y : Int32} : ∀ {d j m : Nat}, fo mT mN x y d j = some m → j ≤ m ∧ m < j + d ∧ mT m = x ∧ mN m = y := by
  intro d
  induction d with
  | zero => intro j m h; exact nomatch h
  | succ d ih =>
    intro j m h
    unfold fo at h
    split at h
    · cases h
      rename_i hc
      exact ⟨by omega, by omega, hc.1, hc.2⟩
    · obtain ⟨a, b, c⟩ := ih h
      exact ⟨by omega, by omega, c⟩
theorem ev_fo (f_typeCount f_linked f_faultPlace f_flowHeight f_active f_ticksLeft f_outcome f_latestResult : Int32) (a_typeAbove a_fieldSet a_methodType a_methodName a_codeLength a_bytes a_isStart a_heightAt a_kindsAt a_isWaiting a_flowKinds a_globals a_objectType a_fieldValue a_isMarked a_frameMethod a_frameAt a_frameHeight a_slots : Nat → Int32) {post : Int32 → Prop} {mc : Nat} (x y : Int32) (h8 : mc ≤ 8) : ∀ d j, j + d = mc → post (foE (fo a_methodType a_methodName x y d j)) → wX_findOwnMethod_2 post x y f_typeCount (nI mc) f_linked f_faultPlace f_flowHeight f_active f_ticksLeft f_outcome f_latestResult a_typeAbove a_fieldSet a_methodType a_methodName a_codeLength a_bytes a_isStart a_heightAt a_kindsAt a_isWaiting a_flowKinds a_globals a_objectType a_fieldValue a_isMarked a_frameMethod a_frameAt a_frameHeight a_slots (d + 1) (nI j) := by
  intro d
  induction d with
  | zero =>
    intro j hj J
    cases (show j = mc by omega)
    exact br_t (nI_le (by omega) (by omega)) J
  | succ d ih =>
    intro j hj J
    unfold fo at J
    unfold wX_findOwnMethod_2
    simp (disch := omega) only [nI_clamp, gm_clL, gm_in, gm_inL, gm_ml, gm_al, gm_la, gm_sl, nI_add, pk_mul, gm_eqL, gm_leL, gm_ltL, gm_Lle, gm_Llt, gm_eq, gm_le, gm_lt, gm_m1, forall_eq, true_and, Nat.not_lt_zero, Nat.add_sub_cancel, gm_z2, gm_z3, gm_z9, gm_z16, gm_z18, gm_z32, gm_z36, gm_z64, gm_z1152, not_true_eq_false, not_false_eq_true, false_implies, true_implies, and_true, implies_true]
    refine ⟨fun z => absurd z (by omega), fun _ => ?_⟩
    by_cases e1 : a_methodType j = x
    · refine br_t e1 ?_
      by_cases e2 : a_methodName j = y
      · rw [if_pos ⟨e1, e2⟩] at J
        exact br_t e2 J
      · rw [if_neg (fun z => e2 z.2)] at J
        exact br_f e2 (ih (j + 1) (by omega) J)
    · rw [if_neg (fun z => e1 z.1)] at J
      exact br_f e1 (ih (j + 1) (by omega) J)
theorem ev_findOwn (f_typeCount f_linked f_faultPlace f_flowHeight f_active f_ticksLeft f_outcome f_latestResult : Int32) (a_typeAbove a_fieldSet a_methodType a_methodName a_codeLength a_bytes a_isStart a_heightAt a_kindsAt a_isWaiting a_flowKinds a_globals a_objectType a_fieldValue a_isMarked a_frameMethod a_frameAt a_frameHeight a_slots : Nat → Int32) {post : Int32 → Prop} {mc : Nat} (x y : Int32) (h8 : mc ≤ 8) (J : post (foE (fo a_methodType a_methodName x y mc 0))) : wpX_findOwnMethod post (f_typeCount, nI mc, f_linked, f_faultPlace, f_flowHeight, f_active, f_ticksLeft, f_outcome, f_latestResult, a_typeAbove, a_fieldSet, a_methodType, a_methodName, a_codeLength, a_bytes, a_isStart, a_heightAt, a_kindsAt, a_isWaiting, a_flowKinds, a_globals, a_objectType, a_fieldValue, a_isMarked, a_frameMethod, a_frameAt, a_frameHeight, a_slots) x y := ⟨mc + 1, ev_fo f_typeCount f_linked f_faultPlace f_flowHeight f_active f_ticksLeft f_outcome f_latestResult a_typeAbove a_fieldSet a_methodType a_methodName a_codeLength a_bytes a_isStart a_heightAt a_kindsAt a_isWaiting a_flowKinds a_globals a_objectType a_fieldValue a_isMarked a_frameMethod a_frameAt a_frameHeight a_slots x y h8 mc 0 (by omega) J⟩
theorem ev_ym (g_place g_result g_linked g_bad g_high g_refs g_active g_ticks g_code : Int32) (b_above b_ownField b_mType b_mName b_mLength b_bytes b_starts : Nat → Int32) (b_seen b_done : Nat → Int64) (b_heights b_local b_sure b_objType b_objField b_marked b_global b_fMethod b_fPc b_fHigh b_fLocal b_fEntry : Nat → Int32) {post : Int32 → SY → Prop} {mc tc : Nat} (y : Int32) (h8 : mc < 8) (J0 : fo b_mType b_mName (nI tc) y mc 0 ≠ none → post 0 (nI (tc + 1), nI mc, g_place, g_result, g_linked, g_bad, g_high, g_refs, g_active, g_ticks, g_code, b_above, b_ownField, b_mType, b_mName, b_mLength, b_bytes, b_starts, b_seen, b_done, b_heights, b_local, b_sure, b_objType, b_objField, b_marked, b_global, b_fMethod, b_fPc, b_fHigh, b_fLocal, b_fEntry))
    (J1 : fo b_mType b_mName (nI tc) y mc 0 = none → post 1 (nI (tc + 1), nI (mc + 1), g_place, g_result, g_linked, g_bad, g_high, g_refs, g_active, g_ticks, g_code, b_above, b_ownField, upd b_mType mc (nI tc), upd b_mName mc y, upd b_mLength mc 0, b_bytes, b_starts, b_seen, b_done, b_heights, b_local, b_sure, b_objType, b_objField, b_marked, b_global, b_fMethod, b_fPc, b_fHigh, b_fLocal, b_fEntry)) :
    ∀ d j, j + d = mc → fo b_mType b_mName (nI tc) y mc 0 = fo b_mType b_mName (nI tc) y d j → wY_method_37 post y (nI (tc + 1)) (nI mc) g_place g_result g_linked g_bad g_high g_refs g_active g_ticks g_code b_above b_ownField b_mType b_mName b_mLength b_bytes b_starts b_seen b_done b_heights b_local b_sure b_objType b_objField b_marked b_global b_fMethod b_fPc b_fHigh b_fLocal b_fEntry (d + 1) (nI j) := by
  intro d
  induction d with
  | zero =>
    intro j hj e
    cases (show j = mc by omega)
    unfold wY_method_37
    simp (disch := omega) only [nI_clamp, gm_clL, gm_in, gm_inL, gm_ml, gm_al, gm_la, gm_sl, nI_add, pk_mul, gm_eqL, gm_leL, gm_ltL, gm_Lle, gm_Llt, gm_eq, gm_le, gm_lt, gm_m1, forall_eq, true_and, Nat.not_lt_zero, Nat.add_sub_cancel, gm_z2, gm_z3, gm_z9, gm_z16, gm_z18, gm_z32, gm_z36, gm_z64, gm_z1152, not_true_eq_false, not_false_eq_true, false_implies, true_implies, and_true, implies_true]
    exact ⟨fun _ => J1 e, fun z => absurd (Nat.le_refl _) z⟩
  | succ d ih =>
    intro j hj e
    rw [fo_s] at e
    unfold wY_method_37
    simp (disch := omega) only [nI_clamp, gm_clL, gm_in, gm_inL, gm_ml, gm_al, gm_la, gm_sl, nI_add, pk_mul, gm_eqL, gm_leL, gm_ltL, gm_Lle, gm_Llt, gm_eq, gm_le, gm_lt, gm_m1, forall_eq, true_and, Nat.not_lt_zero, Nat.add_sub_cancel, gm_z2, gm_z3, gm_z9, gm_z16, gm_z18, gm_z32, gm_z36, gm_z64, gm_z1152, not_true_eq_false, not_false_eq_true, false_implies, true_implies, and_true, implies_true]
    refine ⟨fun z => absurd z (by omega), fun _ => ?_⟩
    by_cases e1 : b_mType j = nI tc
    · refine br_t e1 ?_
      by_cases e2 : b_mName j = y
      · rw [if_pos ⟨e1, e2⟩] at e
        exact br_t e2 (J0 (by rw [e]; exact fun z => nomatch z))
      · rw [if_neg (fun z => e2 z.2)] at e
        exact br_f e2 (ih (j + 1) (by omega) e)
    · rw [if_neg (fun z => e1 z.1)] at e
      exact br_f e1 (ih (j + 1) (by omega) e)
theorem rl_Pm {tc mc n : Nat} {ab fs own mN mL by' : Nat → Int32} (P : rl_P tc mc ab fs own mN mL by') (hm : mc < 8) (hn : n < 16) (i : Nat) : rl_P tc (mc + 1) ab fs own (upd mN i (nI n)) (upd mL i 0) by' := by
  obtain ⟨a1, a2, a3, a4, a5, a6, a7⟩ := P
  refine ⟨a1, by omega, a3, fun m' => ?_, fun m' => ?_, a6, a7⟩
  · by_cases e : m' = i
    · subst e; rw [pk_us, gp_nI (by omega)]; exact ⟨by omega, rfl⟩
    · rw [pk_un e]; exact a4 m'
  · by_cases e : m' = i
    · subst e; rw [pk_us, gp_n0]; exact ⟨by omega, rfl⟩
    · rw [pk_un e]; exact a5 m'
theorem i_vc_method {k : Nat} {u : SX} {v : SY} (I : i_Rel k u v) (hk : k + 4 ≤ 2048) (v1 : Int32) : wpX_method (fun r u' => wpY_method (fun r' v' => r' = r ∧ i_Rel (k + 4) u' v') v v1) u v1 := by
  obtain ⟨f_typeCount, f_methodCount, f_linked, f_faultPlace, f_flowHeight, f_active, f_ticksLeft, f_outcome, f_latestResult, a_typeAbove, a_fieldSet, a_methodType, a_methodName, a_codeLength, a_bytes, a_isStart, a_heightAt, a_kindsAt, a_isWaiting, a_flowKinds, a_globals, a_objectType, a_fieldValue, a_isMarked, a_frameMethod, a_frameAt, a_frameHeight, a_slots⟩ := u
  obtain ⟨g_types, g_methods, g_place, g_result, g_linked, g_bad, g_high, g_refs, g_active, g_ticks, g_code, b_above, b_ownField, b_mType, b_mName, b_mLength, b_bytes, b_starts, b_seen, b_done, b_heights, b_local, b_sure, b_objType, b_objField, b_marked, b_global, b_fMethod, b_fPc, b_fHigh, b_fLocal, b_fEntry⟩ := v
  have I' := I
  obtain ⟨tc, mc, h, rfl, rfl, rfl, rfl, rfl, hl, rfl, hfp, rfl, rfl, rfl, rfl, rfl, rfl, rfl, P, KB, H, hh, hL⟩ := I
  unfold wpX_method
  have h5 := P.1
  have h8 := P.2.1
  rcases hl with rfl | rfl
  · have h0 : h = 0 := by
      rcases Nat.eq_zero_or_pos h with z | z
      · exact z
      · exact absurd rfl (hh z)
    refine br_t rfl ?_
    rcases Nat.eq_zero_or_pos tc with rfl | hp
    · exact br_t rfl (by unfold wpY_method; exact br_t rfl (br_t rfl ⟨rfl, I'⟩))
    · obtain ⟨tc, rfl⟩ : ∃ c, tc = c + 1 := ⟨tc - 1, by omega⟩
      have n0 : ¬ nI (tc + 1) = 0 := nI_ne0 (by omega) (by omega)
      refine br_f n0 ?_
      rcases gq_rng v1 (n := 16) (by omega) with z | z | ⟨n, hn, rfl⟩
      · refine ev_isNameF (Or.inl z) (br_t rfl ?_)
        unfold wpY_method
        exact br_t rfl (br_f n0 (br_t z ⟨rfl, I'⟩))
      · refine ev_isNameF (Or.inr z) (br_t rfl ?_)
        unfold wpY_method
        exact br_t rfl (br_f n0 (br_f z.1 (br_t (gq_lt (n := 15) (by omega) z.2) ⟨rfl, I'⟩)))
      · have a1 : ¬ nI n < 0 := nI_pos (by omega)
        have a2 : ¬ (15 : Int32) < nI n := nI_nlt (a := 15) (by omega) (by omega)
        refine ev_isName hn (br_f (by decide) ?_)
        by_cases e8 : mc = 8
        · subst e8
          refine br_t rfl ?_
          unfold wpY_method
          exact br_t rfl (br_f n0 (br_f a1 (br_f a2 (br_t rfl ⟨rfl, I'⟩))))
        · have n8 : ¬ nI mc = 8 := by rw [gm_eqL (by omega) (by omega)]; exact e8
          refine br_f n8 (nm_r (nI_pred tc) (ev_findOwn (nI (tc + 1)) 0 f_faultPlace f_flowHeight 0 f_ticksLeft f_outcome f_latestResult a_typeAbove a_fieldSet a_methodType a_methodName a_codeLength a_bytes a_isStart a_heightAt a_kindsAt a_isWaiting a_flowKinds a_globals a_objectType a_fieldValue a_isMarked a_frameMethod a_frameAt a_frameHeight a_slots _ _ h8 ?_))
          have y0 : ∀ post : Int32 → SY → Prop, (fo a_methodType a_methodName (nI tc) (nI n) mc 0 ≠ none → post 0 (nI (tc + 1), nI mc, f_faultPlace, f_latestResult, 0, g_bad, g_high, g_refs, g_active, g_ticks, g_code, a_typeAbove, b_ownField, a_methodType, a_methodName, a_codeLength, a_bytes, b_starts, b_seen, b_done, b_heights, b_local, b_sure, b_objType, b_objField, b_marked, b_global, b_fMethod, b_fPc, b_fHigh, b_fLocal, b_fEntry)) → (fo a_methodType a_methodName (nI tc) (nI n) mc 0 = none → post 1 (nI (tc + 1), nI (mc + 1), f_faultPlace, f_latestResult, 0, g_bad, g_high, g_refs, g_active, g_ticks, g_code, a_typeAbove, b_ownField, upd a_methodType mc (nI tc), upd a_methodName mc (nI n), upd a_codeLength mc 0, a_bytes, b_starts, b_seen, b_done, b_heights, b_local, b_sure, b_objType, b_objField, b_marked, b_global, b_fMethod, b_fPc, b_fHigh, b_fLocal, b_fEntry)) → wpY_method post (nI (tc + 1), nI mc, f_faultPlace, f_latestResult, 0, g_bad, g_high, g_refs, g_active, g_ticks, g_code, a_typeAbove, b_ownField, a_methodType, a_methodName, a_codeLength, a_bytes, b_starts, b_seen, b_done, b_heights, b_local, b_sure, b_objType, b_objField, b_marked, b_global, b_fMethod, b_fPc, b_fHigh, b_fLocal, b_fEntry) (nI n) := by
            intro post J0 J1
            unfold wpY_method
            exact br_t rfl (br_f n0 (br_f a1 (br_f a2 (br_f n8 ⟨mc + 1, ev_ym f_faultPlace f_latestResult 0 g_bad g_high g_refs g_active g_ticks g_code a_typeAbove b_ownField a_methodType a_methodName a_codeLength a_bytes b_starts b_seen b_done b_heights b_local b_sure b_objType b_objField b_marked b_global b_fMethod b_fPc b_fHigh b_fLocal b_fEntry _ (by omega) J0 J1 mc 0 (by omega) rfl⟩))))
          cases hf : fo a_methodType a_methodName (nI tc) (nI n) mc 0 with
          | none =>
            refine br_t rfl ?_
            simp (disch := omega) only [nI_clamp, gm_clL, gm_in, gm_inL, gm_ml, gm_al, gm_la, gm_sl, nI_add, pk_mul, gm_eqL, gm_leL, gm_ltL, gm_Lle, gm_Llt, gm_eq, gm_le, gm_lt, gm_m1, forall_eq, true_and, Nat.not_lt_zero, Nat.add_sub_cancel, gm_z2, gm_z3, gm_z9, gm_z16, gm_z18, gm_z32, gm_z36, gm_z64, gm_z1152, not_true_eq_false, not_false_eq_true, false_implies, true_implies, and_true, implies_true]
            refine y0 _ (fun z => absurd hf z) (fun _ => ⟨rfl, tc + 1, mc + 1, 0, rfl, rfl, rfl, rfl, rfl, Or.inl rfl, rfl, hfp, rfl, rfl, rfl, rfl, rfl, rfl, rfl, rl_Pm P (by omega) hn _, KB, rl_H0 H h0, fun z => absurd z (by omega), fun z => absurd rfl z⟩)
          | some m =>
            have hm := fo_some hf
            refine br_f (by show ¬ nI m = -1; rw [gm_m1 (by omega)]; exact id) (y0 _ (fun _ => ⟨rfl, I'⟩) (fun z => by rw [hf] at z; exact nomatch z))
  · refine br_f (by decide) ?_
    unfold wpY_method
    exact br_f (by decide) ⟨rfl, I'⟩
/-! ===== reset ===== -/
theorem i_vc_reset {k : Nat} {u : SX} {v : SY} (I : i_Rel k u v) (hk : k + 4 ≤ 2048) : wpX_reset (fun u' => wpY_reset (fun v' => i_Rel (k + 4) u' v') v) u := by
  obtain ⟨f_typeCount, f_methodCount, f_linked, f_faultPlace, f_flowHeight, f_active, f_ticksLeft, f_outcome, f_latestResult, a_typeAbove, a_fieldSet, a_methodType, a_methodName, a_codeLength, a_bytes, a_isStart, a_heightAt, a_kindsAt, a_isWaiting, a_flowKinds, a_globals, a_objectType, a_fieldValue, a_isMarked, a_frameMethod, a_frameAt, a_frameHeight, a_slots⟩ := u
  obtain ⟨g_types, g_methods, g_place, g_result, g_linked, g_bad, g_high, g_refs, g_active, g_ticks, g_code, b_above, b_ownField, b_mType, b_mName, b_mLength, b_bytes, b_starts, b_seen, b_done, b_heights, b_local, b_sure, b_objType, b_objField, b_marked, b_global, b_fMethod, b_fPc, b_fHigh, b_fLocal, b_fEntry⟩ := v
  obtain ⟨tc, mc, h, rfl, rfl, rfl, rfl, rfl, hl, rfl, hfp, rfl, rfl, rfl, rfl, rfl, rfl, rfl, P, KB, H, hh, hL⟩ := I
  refine ⟨3, ?_⟩
  refine br_f (by decide) ⟨vp_in_nI (n := 0) (by omega) (by omega), nm_e (nm_e (br_f (by decide) ⟨vp_in_nI (n := 1) (by omega) (by omega), nm_e (nm_e (br_t (by decide) ?_))⟩))⟩
  refine nm_e (nm_e ?_)
  refine ⟨0, 0, 0, rfl, rfl, rfl, rfl, rfl, Or.inl rfl, rfl, fun z => absurd rfl z, rfl, rfl, rfl, rfl, rfl, rfl, rfl, ?_, KB, ?_, fun z => absurd z (by omega), fun z => absurd rfl z⟩
  · exact ⟨by omega, by omega, fun t z => absurd z (by omega), P.2.2.2.1, P.2.2.2.2.1, P.2.2.2.2.2.1, fun t z => absurd z (by omega)⟩
  · refine ⟨by omega, fun g hg => ⟨0, by omega, ?_, ?_⟩, fun o z => absurd z (by omega)⟩
    · rcases (by omega : g = 0 ∨ g = 1) with rfl | rfl <;> rfl
    · rcases (by omega : g = 0 ∨ g = 1) with rfl | rfl
      · show _ = _; rw [yR_0]; rfl
      · show _ = _; rw [yR_0]; rfl
/-! ===== held, peek, follow, alike, clear ===== -/
theorem ev_toN0 (f_typeCount f_methodCount f_linked f_faultPlace f_flowHeight f_active f_ticksLeft f_outcome f_latestResult : Int32) (a_typeAbove a_fieldSet a_methodType a_methodName a_codeLength a_bytes a_isStart a_heightAt a_kindsAt a_isWaiting a_flowKinds a_globals a_objectType a_fieldValue a_isMarked a_frameMethod a_frameAt a_frameHeight a_slots : Nat → Int32) {post : Int32 → Prop} (J : post (-1)) : wpX_typeOrNone post (f_typeCount, f_methodCount, f_linked, f_faultPlace, f_flowHeight, f_active, f_ticksLeft, f_outcome, f_latestResult, a_typeAbove, a_fieldSet, a_methodType, a_methodName, a_codeLength, a_bytes, a_isStart, a_heightAt, a_kindsAt, a_isWaiting, a_flowKinds, a_globals, a_objectType, a_fieldValue, a_isMarked, a_frameMethod, a_frameAt, a_frameHeight, a_slots) (nI 0) := br_t rfl J
theorem ev_toN (f_typeCount f_methodCount f_linked f_faultPlace f_flowHeight f_active f_ticksLeft f_outcome f_latestResult : Int32) (a_typeAbove a_fieldSet a_methodType a_methodName a_codeLength a_bytes a_isStart a_heightAt a_kindsAt a_isWaiting a_flowKinds a_globals a_objectType a_fieldValue a_isMarked a_frameMethod a_frameAt a_frameHeight a_slots : Nat → Int32) {post : Int32 → Prop} {o : Nat} (ho : o < 10) (J : post (a_objectType (o + 1))) : wpX_typeOrNone post (f_typeCount, f_methodCount, f_linked, f_faultPlace, f_flowHeight, f_active, f_ticksLeft, f_outcome, f_latestResult, a_typeAbove, a_fieldSet, a_methodType, a_methodName, a_codeLength, a_bytes, a_isStart, a_heightAt, a_kindsAt, a_isWaiting, a_flowKinds, a_globals, a_objectType, a_fieldValue, a_isMarked, a_frameMethod, a_frameAt, a_frameHeight, a_slots) (nI (o + 1)) := by
  unfold wpX_typeOrNone
  refine br_f (nI_ne0 (by omega) (by omega)) ⟨vp_in_nI (by omega) (by omega), ?_⟩
  rw [nI_clamp (by omega)]
  exact J
theorem ev_hold0 (g_types g_methods g_place g_result g_linked g_bad g_high g_refs g_active g_ticks g_code : Int32) (b_above b_ownField b_mType b_mName b_mLength b_bytes b_starts : Nat → Int32) (b_seen b_done : Nat → Int64) (b_heights b_local b_sure b_objType b_objField b_marked b_global b_fMethod b_fPc b_fHigh b_fLocal b_fEntry : Nat → Int32) {post : Int32 → Prop} {x : Int32} (h : x < 0 ∨ (¬ x < 0 ∧ nI 2 ≤ x)) (J : post 0) : wpY_holds post (g_types, g_methods, g_place, g_result, g_linked, g_bad, g_high, g_refs, g_active, g_ticks, g_code, b_above, b_ownField, b_mType, b_mName, b_mLength, b_bytes, b_starts, b_seen, b_done, b_heights, b_local, b_sure, b_objType, b_objField, b_marked, b_global, b_fMethod, b_fPc, b_fHigh, b_fLocal, b_fEntry) x := by
  rcases h with h | ⟨h, h2⟩
  · exact br_t h J
  · exact br_f h (br_t (gq_lt (n := 1) (by omega) h2) J)
theorem ev_holdN (g_types g_methods g_place g_result g_linked g_bad g_high g_refs g_active g_ticks g_code : Int32) (b_above b_ownField b_mType b_mName b_mLength b_bytes b_starts : Nat → Int32) (b_seen b_done : Nat → Int64) (b_heights b_local b_sure b_objType b_objField b_marked b_global b_fMethod b_fPc b_fHigh b_fLocal b_fEntry : Nat → Int32) {post : Int32 → Prop} {g : Nat} (hg : g < 2) (e : b_global g = yR 0) (J : post 0) : wpY_holds post (g_types, g_methods, g_place, g_result, g_linked, g_bad, g_high, g_refs, g_active, g_ticks, g_code, b_above, b_ownField, b_mType, b_mName, b_mLength, b_bytes, b_starts, b_seen, b_done, b_heights, b_local, b_sure, b_objType, b_objField, b_marked, b_global, b_fMethod, b_fPc, b_fHigh, b_fLocal, b_fEntry) (nI g) := by
  refine br_f (nI_pos (by omega)) (br_f (nI_nlt (a := 1) (by omega) (by omega)) ⟨vp_in_nI hg (by omega), ?_⟩)
  rw [nI_clamp (by omega), e]
  exact br_t (by decide) J
theorem ev_hold1 (g_types g_methods g_place g_result g_linked g_bad g_high g_refs g_active g_ticks g_code : Int32) (b_above b_ownField b_mType b_mName b_mLength b_bytes b_starts : Nat → Int32) (b_seen b_done : Nat → Int64) (b_heights b_local b_sure b_objType b_objField b_marked b_global b_fMethod b_fPc b_fHigh b_fLocal b_fEntry : Nat → Int32) {post : Int32 → Prop} {g o : Nat} (hg : g < 2) (ho : o < 10) (e : b_global g = nI o) (J : post 1) : wpY_holds post (g_types, g_methods, g_place, g_result, g_linked, g_bad, g_high, g_refs, g_active, g_ticks, g_code, b_above, b_ownField, b_mType, b_mName, b_mLength, b_bytes, b_starts, b_seen, b_done, b_heights, b_local, b_sure, b_objType, b_objField, b_marked, b_global, b_fMethod, b_fPc, b_fHigh, b_fLocal, b_fEntry) (nI g) := by
  refine br_f (nI_pos (by omega)) (br_f (nI_nlt (a := 1) (by omega) (by omega)) ⟨vp_in_nI hg (by omega), ?_⟩)
  rw [nI_clamp (by omega), e]
  exact br_f (nI_pos (by omega)) J
theorem i_vc_held {k : Nat} {u : SX} {v : SY} (I : i_Rel k u v) (hk : k + 4 ≤ 2048) (v1 : Int32) : wpX_held (fun r => wpY_held (fun r' => r' = r ∧ i_Rel (k + 4) u v) v v1) u v1 := by
  obtain ⟨f_typeCount, f_methodCount, f_linked, f_faultPlace, f_flowHeight, f_active, f_ticksLeft, f_outcome, f_latestResult, a_typeAbove, a_fieldSet, a_methodType, a_methodName, a_codeLength, a_bytes, a_isStart, a_heightAt, a_kindsAt, a_isWaiting, a_flowKinds, a_globals, a_objectType, a_fieldValue, a_isMarked, a_frameMethod, a_frameAt, a_frameHeight, a_slots⟩ := u
  obtain ⟨g_types, g_methods, g_place, g_result, g_linked, g_bad, g_high, g_refs, g_active, g_ticks, g_code, b_above, b_ownField, b_mType, b_mName, b_mLength, b_bytes, b_starts, b_seen, b_done, b_heights, b_local, b_sure, b_objType, b_objField, b_marked, b_global, b_fMethod, b_fPc, b_fHigh, b_fLocal, b_fEntry⟩ := v
  have I' := I
  obtain ⟨tc, mc, h, rfl, rfl, rfl, rfl, rfl, hl, rfl, hfp, rfl, rfl, rfl, rfl, rfl, rfl, rfl, P, KB, H, hh, hL⟩ := I
  obtain ⟨h10, hg, ho⟩ := H
  unfold wpX_held
  have out : (v1 < 0 ∨ (¬ v1 < 0 ∧ nI 2 ≤ v1)) → wpX_held (fun r => wpY_held (fun r' => r' = r ∧ i_Rel (k + 4) (nI tc, nI mc, f_linked, f_faultPlace, f_flowHeight, 0, f_ticksLeft, f_outcome, f_latestResult, a_typeAbove, a_fieldSet, a_methodType, a_methodName, a_codeLength, a_bytes, a_isStart, a_heightAt, a_kindsAt, a_isWaiting, a_flowKinds, a_globals, a_objectType, a_fieldValue, a_isMarked, a_frameMethod, a_frameAt, a_frameHeight, a_slots) (nI tc, nI mc, f_faultPlace, f_latestResult, f_linked, g_bad, g_high, g_refs, g_active, g_ticks, g_code, a_typeAbove, b_ownField, a_methodType, a_methodName, a_codeLength, a_bytes, b_starts, b_seen, b_done, b_heights, b_local, b_sure, b_objType, b_objField, b_marked, b_global, b_fMethod, b_fPc, b_fHigh, b_fLocal, b_fEntry)) (nI tc, nI mc, f_faultPlace, f_latestResult, f_linked, g_bad, g_high, g_refs, g_active, g_ticks, g_code, a_typeAbove, b_ownField, a_methodType, a_methodName, a_codeLength, a_bytes, b_starts, b_seen, b_done, b_heights, b_local, b_sure, b_objType, b_objField, b_marked, b_global, b_fMethod, b_fPc, b_fHigh, b_fLocal, b_fEntry) v1) (nI tc, nI mc, f_linked, f_faultPlace, f_flowHeight, 0, f_ticksLeft, f_outcome, f_latestResult, a_typeAbove, a_fieldSet, a_methodType, a_methodName, a_codeLength, a_bytes, a_isStart, a_heightAt, a_kindsAt, a_isWaiting, a_flowKinds, a_globals, a_objectType, a_fieldValue, a_isMarked, a_frameMethod, a_frameAt, a_frameHeight, a_slots) v1 := by
    intro z
    unfold wpX_held
    refine ev_isGlobalF z (br_t rfl ?_)
    unfold wpY_held
    exact ev_hold0 (nI tc) (nI mc) f_faultPlace f_latestResult f_linked g_bad g_high g_refs g_active g_ticks g_code a_typeAbove b_ownField a_methodType a_methodName a_codeLength a_bytes b_starts b_seen b_done b_heights b_local b_sure b_objType b_objField b_marked b_global b_fMethod b_fPc b_fHigh b_fLocal b_fEntry z (br_t rfl ⟨rfl, I'⟩)
  rcases gq_rng v1 (n := 2) (by omega) with z | z | ⟨g, hg2, rfl⟩
  · exact out (Or.inl z)
  · exact out (Or.inr z)
  · obtain ⟨r, hr, e1, e2⟩ := hg g hg2
    refine ev_isGlobal hg2 (br_f (by decide) ⟨vp_in_nI hg2 (by omega), ?_⟩)
    rw [nI_clamp (by omega), e1]
    cases r with
    | zero =>
      refine ev_toN0 (nI tc) (nI mc) f_linked f_faultPlace f_flowHeight 0 f_ticksLeft f_outcome f_latestResult a_typeAbove a_fieldSet a_methodType a_methodName a_codeLength a_bytes a_isStart a_heightAt a_kindsAt a_isWaiting a_flowKinds a_globals a_objectType a_fieldValue a_isMarked a_frameMethod a_frameAt a_frameHeight a_slots ?_
      unfold wpY_held
      exact ev_holdN (nI tc) (nI mc) f_faultPlace f_latestResult f_linked g_bad g_high g_refs g_active g_ticks g_code a_typeAbove b_ownField a_methodType a_methodName a_codeLength a_bytes b_starts b_seen b_done b_heights b_local b_sure b_objType b_objField b_marked b_global b_fMethod b_fPc b_fHigh b_fLocal b_fEntry hg2 e2 (br_t rfl ⟨rfl, I'⟩)
    | succ o =>
      rw [yR_s] at e2
      obtain ⟨t, ht, t1, t2, -⟩ := ho o (by omega)
      refine ev_toN (nI tc) (nI mc) f_linked f_faultPlace f_flowHeight 0 f_ticksLeft f_outcome f_latestResult a_typeAbove a_fieldSet a_methodType a_methodName a_codeLength a_bytes a_isStart a_heightAt a_kindsAt a_isWaiting a_flowKinds a_globals a_objectType a_fieldValue a_isMarked a_frameMethod a_frameAt a_frameHeight a_slots (by omega) ?_
      unfold wpY_held
      refine ev_hold1 (nI tc) (nI mc) f_faultPlace f_latestResult f_linked g_bad g_high g_refs g_active g_ticks g_code a_typeAbove b_ownField a_methodType a_methodName a_codeLength a_bytes b_starts b_seen b_done b_heights b_local b_sure b_objType b_objField b_marked b_global b_fMethod b_fPc b_fHigh b_fLocal b_fEntry hg2 (by omega) e2 (br_f (by decide) ⟨vp_in_nI hg2 (by omega), ?_⟩)
      rw [nI_clamp (by omega), e2, nI_clamp (by omega), t1, t2]
      exact ⟨vp_in_nI (by omega) (by omega), rfl, I'⟩
theorem i_vc_alike {k : Nat} {u : SX} {v : SY} (I : i_Rel k u v) (hk : k + 4 ≤ 2048) : wpX_alike (fun r => wpY_alike (fun r' => r' = r ∧ i_Rel (k + 4) u v) v) u := by
  obtain ⟨f_typeCount, f_methodCount, f_linked, f_faultPlace, f_flowHeight, f_active, f_ticksLeft, f_outcome, f_latestResult, a_typeAbove, a_fieldSet, a_methodType, a_methodName, a_codeLength, a_bytes, a_isStart, a_heightAt, a_kindsAt, a_isWaiting, a_flowKinds, a_globals, a_objectType, a_fieldValue, a_isMarked, a_frameMethod, a_frameAt, a_frameHeight, a_slots⟩ := u
  obtain ⟨g_types, g_methods, g_place, g_result, g_linked, g_bad, g_high, g_refs, g_active, g_ticks, g_code, b_above, b_ownField, b_mType, b_mName, b_mLength, b_bytes, b_starts, b_seen, b_done, b_heights, b_local, b_sure, b_objType, b_objField, b_marked, b_global, b_fMethod, b_fPc, b_fHigh, b_fLocal, b_fEntry⟩ := v
  have I' := I
  obtain ⟨tc, mc, h, rfl, rfl, rfl, rfl, rfl, hl, rfl, hfp, rfl, rfl, rfl, rfl, rfl, rfl, rfl, P, KB, H, hh, hL⟩ := I
  obtain ⟨h10, hg, ho⟩ := H
  obtain ⟨r0, hr0, a0, b0⟩ := hg 0 (by omega)
  obtain ⟨r1, hr1, a1, b1⟩ := hg 1 (by omega)
  unfold wpX_alike
  dsimp only
  rw [a0, a1]
  have hY : ∀ post : Int32 → Prop, (r0 = r1 → r0 ≠ 0 → post 1) → (r0 = r1 → r0 = 0 → post 0) → (r0 ≠ r1 → post 0) → wpY_alike post (nI tc, nI mc, f_faultPlace, f_latestResult, f_linked, g_bad, g_high, g_refs, g_active, g_ticks, g_code, a_typeAbove, b_ownField, a_methodType, a_methodName, a_codeLength, a_bytes, b_starts, b_seen, b_done, b_heights, b_local, b_sure, b_objType, b_objField, b_marked, b_global, b_fMethod, b_fPc, b_fHigh, b_fLocal, b_fEntry) := by
    intro post c1 c2 c3
    unfold wpY_alike
    dsimp only
    rw [b0, b1]
    cases r0 with
    | zero =>
      cases r1 with
      | zero => exact br_t rfl (br_t (by decide) (c2 rfl rfl))
      | succ o1 =>
        rw [yR_0, yR_s]
        have n : ¬ (-1 : Int32) = nI o1 := fun e => absurd e.symm (of_eq_false (gm_m1 (by omega)))
        exact br_f n (c3 (by omega))
    | succ o0 =>
      cases r1 with
      | zero =>
        rw [yR_0, yR_s]
        exact br_f (of_eq_false (gm_m1 (by omega))) (c3 (by omega))
      | succ o1 =>
        rw [yR_s, yR_s]
        exact pk_eq o0 o1 (fun e => br_f (nI_pos (by omega)) (c1 (by omega) (by omega))) (fun e => c3 (by omega))
  refine pk_eq r0 0 (fun e => ?_) (fun e => pk_eq r0 r1 (fun e2 => ?_) (fun e2 => ?_))
  · exact hY _ (fun _ z => absurd e z) (fun _ _ => ⟨rfl, I'⟩) (fun _ => ⟨rfl, I'⟩)
  · exact hY _ (fun _ _ => ⟨rfl, I'⟩) (fun _ z => absurd z e) (fun z => absurd e2 z)
  · exact hY _ (fun z _ => absurd z e2) (fun z _ => absurd z e2) (fun _ => ⟨rfl, I'⟩)
theorem i_vc_clear {k : Nat} {u : SX} {v : SY} (I : i_Rel k u v) (hk : k + 4 ≤ 2048) (v1 : Int32) : wpX_clear (fun r u' => wpY_clear (fun r' v' => r' = r ∧ i_Rel (k + 4) u' v') v v1) u v1 := by
  obtain ⟨f_typeCount, f_methodCount, f_linked, f_faultPlace, f_flowHeight, f_active, f_ticksLeft, f_outcome, f_latestResult, a_typeAbove, a_fieldSet, a_methodType, a_methodName, a_codeLength, a_bytes, a_isStart, a_heightAt, a_kindsAt, a_isWaiting, a_flowKinds, a_globals, a_objectType, a_fieldValue, a_isMarked, a_frameMethod, a_frameAt, a_frameHeight, a_slots⟩ := u
  obtain ⟨g_types, g_methods, g_place, g_result, g_linked, g_bad, g_high, g_refs, g_active, g_ticks, g_code, b_above, b_ownField, b_mType, b_mName, b_mLength, b_bytes, b_starts, b_seen, b_done, b_heights, b_local, b_sure, b_objType, b_objField, b_marked, b_global, b_fMethod, b_fPc, b_fHigh, b_fLocal, b_fEntry⟩ := v
  have I' := I
  obtain ⟨tc, mc, h, rfl, rfl, rfl, rfl, rfl, hl, rfl, hfp, rfl, rfl, rfl, rfl, rfl, rfl, rfl, P, KB, H, hh, hL⟩ := I
  obtain ⟨h10, hg, ho⟩ := H
  unfold wpX_clear
  rcases gq_rng v1 (n := 2) (by omega) with z | z | ⟨g, hg2, rfl⟩
  · refine ev_isGlobalF (Or.inl z) (br_t rfl ?_)
    unfold wpY_clear
    exact br_t z ⟨rfl, I'⟩
  · refine ev_isGlobalF (Or.inr z) (br_t rfl ?_)
    unfold wpY_clear
    exact br_f z.1 (br_f (gq_nle (n := 1) (by omega) z.2) ⟨rfl, I'⟩)
  · refine ev_isGlobal hg2 (br_f (by decide) ⟨vp_in_nI hg2 (by omega), nm_e ?_⟩)
    rw [nI_clamp (by omega)]
    unfold wpY_clear
    refine br_f (nI_pos (by omega)) (br_t (nI_le (b := 1) (by omega) (by decide)) ⟨vp_in_nI hg2 (by omega), nm_e ?_⟩)
    rw [nI_clamp (by omega)]
    refine ⟨rfl, tc, mc, h, rfl, rfl, rfl, rfl, rfl, hl, rfl, hfp, rfl, rfl, rfl, rfl, rfl, rfl, rfl, P, KB, ⟨h10, fun g' hg' => ?_, ho⟩, hh, hL⟩
    by_cases e : g' = g
    · subst e
      exact ⟨0, by omega, pk_us, by rw [pk_us, yR_0]⟩
    · rw [pk_un e, pk_un e]; exact hg g' hg'
theorem ev_ghf0 (f_typeCount f_methodCount f_linked f_faultPlace f_flowHeight f_active f_ticksLeft f_outcome f_latestResult : Int32) (a_typeAbove a_fieldSet a_methodType a_methodName a_codeLength a_bytes a_isStart a_heightAt a_kindsAt a_isWaiting a_flowKinds a_globals a_objectType a_fieldValue a_isMarked a_frameMethod a_frameAt a_frameHeight a_slots : Nat → Int32) {post : Int32 → Prop} {x y : Int32} (h : (x < 0 ∨ (¬ x < 0 ∧ nI 2 ≤ x)) ∨ ∃ g, g < 2 ∧ x = nI g ∧ ((y < 0 ∨ (¬ y < 0 ∧ nI 16 ≤ y)) ∨ ∃ n, n < 16 ∧ y = nI n ∧ a_globals g = 0)) (J : post 0) : wpX_globalHasField post (f_typeCount, f_methodCount, f_linked, f_faultPlace, f_flowHeight, f_active, f_ticksLeft, f_outcome, f_latestResult, a_typeAbove, a_fieldSet, a_methodType, a_methodName, a_codeLength, a_bytes, a_isStart, a_heightAt, a_kindsAt, a_isWaiting, a_flowKinds, a_globals, a_objectType, a_fieldValue, a_isMarked, a_frameMethod, a_frameAt, a_frameHeight, a_slots) x y := by
  unfold wpX_globalHasField
  rcases h with h | ⟨g, hg, rfl, h | ⟨n, hn, rfl, h⟩⟩
  · exact ev_isGlobalF h (br_t rfl J)
  · exact ev_isGlobal hg (br_f (by decide) (ev_isNameF h (br_t rfl J)))
  · refine ev_isGlobal hg (br_f (by decide) (ev_isName hn (br_f (by decide) ⟨vp_in_nI hg (by omega), ?_⟩)))
    rw [nI_clamp (by omega), h]
    exact br_t rfl J
theorem ev_ghf (f_typeCount f_methodCount f_linked f_faultPlace f_flowHeight f_active f_ticksLeft f_outcome f_latestResult : Int32) (a_typeAbove a_fieldSet a_methodType a_methodName a_codeLength a_bytes a_isStart a_heightAt a_kindsAt a_isWaiting a_flowKinds a_globals a_objectType a_fieldValue a_isMarked a_frameMethod a_frameAt a_frameHeight a_slots : Nat → Int32) {post : Int32 → Prop} {g n o t : Nat} (hg : g < 2) (hn : n < 16) (ho : o < 10) (ht : t < 5) (e : a_globals g = nI (o + 1)) (et : a_objectType (o + 1) = nI t) (J : post (if bt (a_fieldSet t) n = true then 1 else 0)) : wpX_globalHasField post (f_typeCount, f_methodCount, f_linked, f_faultPlace, f_flowHeight, f_active, f_ticksLeft, f_outcome, f_latestResult, a_typeAbove, a_fieldSet, a_methodType, a_methodName, a_codeLength, a_bytes, a_isStart, a_heightAt, a_kindsAt, a_isWaiting, a_flowKinds, a_globals, a_objectType, a_fieldValue, a_isMarked, a_frameMethod, a_frameAt, a_frameHeight, a_slots) (nI g) (nI n) := by
  unfold wpX_globalHasField
  refine ev_isGlobal hg (br_f (by decide) (ev_isName hn (br_f (by decide) ⟨vp_in_nI hg (by omega), ?_⟩)))
  rw [nI_clamp (by omega), e]
  refine br_f (nI_ne0 (by omega) (by omega)) ⟨vp_in_nI hg (by omega), vp_in_nI (by omega) (by omega), ?_⟩
  rw [nI_clamp (by omega), et]
  refine ev_hasField f_typeCount f_methodCount f_linked f_faultPlace f_flowHeight f_active f_ticksLeft f_outcome f_latestResult a_typeAbove a_fieldSet a_methodType a_methodName a_codeLength a_bytes a_isStart a_heightAt a_kindsAt a_isWaiting a_flowKinds a_globals a_objectType a_fieldValue a_isMarked a_frameMethod a_frameAt a_frameHeight a_slots ht hn ?_
  cases hb : bt (a_fieldSet t) n
  · rw [hb] at J; exact ⟨rfl, J⟩
  · rw [hb] at J; exact ⟨rfl, J⟩
theorem ev_vk {post : Int32 → Prop} {n : Nat} (hn : n < 256) (J : post (nI (is_vk n))) : wpX_valueKind post (nI n) := by
  unfold is_vk at J
  refine pk_lt n 8 (fun h => ?_) (fun h => ?_)
  · rw [if_pos h] at J; exact J
  · rw [if_neg (by omega)] at J; exact J
theorem i_vc_peek {k : Nat} {u : SX} {v : SY} (I : i_Rel k u v) (hk : k + 4 ≤ 2048) (v1 : Int32) (v2 : Int32) : wpX_peek (fun r => wpY_peek (fun r' => r' = r ∧ i_Rel (k + 4) u v) v v1 v2) u v1 v2 := by
  obtain ⟨f_typeCount, f_methodCount, f_linked, f_faultPlace, f_flowHeight, f_active, f_ticksLeft, f_outcome, f_latestResult, a_typeAbove, a_fieldSet, a_methodType, a_methodName, a_codeLength, a_bytes, a_isStart, a_heightAt, a_kindsAt, a_isWaiting, a_flowKinds, a_globals, a_objectType, a_fieldValue, a_isMarked, a_frameMethod, a_frameAt, a_frameHeight, a_slots⟩ := u
  obtain ⟨g_types, g_methods, g_place, g_result, g_linked, g_bad, g_high, g_refs, g_active, g_ticks, g_code, b_above, b_ownField, b_mType, b_mName, b_mLength, b_bytes, b_starts, b_seen, b_done, b_heights, b_local, b_sure, b_objType, b_objField, b_marked, b_global, b_fMethod, b_fPc, b_fHigh, b_fLocal, b_fEntry⟩ := v
  have I' := I
  obtain ⟨tc, mc, h, rfl, rfl, rfl, rfl, rfl, hl, rfl, hfp, rfl, rfl, rfl, rfl, rfl, rfl, rfl, P, KB, H, hh, hL⟩ := I
  obtain ⟨h10, hg, ho⟩ := H
  have h5 := P.1
  unfold wpX_peek
  rcases gq_rng v1 (n := 2) (by omega) with z | z | ⟨g, hg2, rfl⟩
  · refine ev_ghf0 (nI tc) (nI mc) f_linked f_faultPlace f_flowHeight 0 f_ticksLeft f_outcome f_latestResult a_typeAbove a_fieldSet a_methodType a_methodName a_codeLength a_bytes a_isStart a_heightAt a_kindsAt a_isWaiting a_flowKinds a_globals a_objectType a_fieldValue a_isMarked a_frameMethod a_frameAt a_frameHeight a_slots (Or.inl (Or.inl z)) (br_t rfl ?_)
    unfold wpY_peek
    exact ev_hold0 (nI tc) (nI mc) f_faultPlace f_latestResult f_linked g_bad g_high g_refs g_active g_ticks g_code a_typeAbove b_ownField a_methodType a_methodName a_codeLength a_bytes b_starts b_seen b_done b_heights b_local b_sure b_objType b_objField b_marked b_global b_fMethod b_fPc b_fHigh b_fLocal b_fEntry (Or.inl z) (br_t rfl ⟨rfl, I'⟩)
  · refine ev_ghf0 (nI tc) (nI mc) f_linked f_faultPlace f_flowHeight 0 f_ticksLeft f_outcome f_latestResult a_typeAbove a_fieldSet a_methodType a_methodName a_codeLength a_bytes a_isStart a_heightAt a_kindsAt a_isWaiting a_flowKinds a_globals a_objectType a_fieldValue a_isMarked a_frameMethod a_frameAt a_frameHeight a_slots (Or.inl (Or.inr z)) (br_t rfl ?_)
    unfold wpY_peek
    exact ev_hold0 (nI tc) (nI mc) f_faultPlace f_latestResult f_linked g_bad g_high g_refs g_active g_ticks g_code a_typeAbove b_ownField a_methodType a_methodName a_codeLength a_bytes b_starts b_seen b_done b_heights b_local b_sure b_objType b_objField b_marked b_global b_fMethod b_fPc b_fHigh b_fLocal b_fEntry (Or.inr z) (br_t rfl ⟨rfl, I'⟩)
  · obtain ⟨r, hr, e1, e2⟩ := hg g hg2
    have yn : r = 0 → ∀ post : Int32 → Prop, post (-2147483648) → wpY_peek post (nI tc, nI mc, f_faultPlace, f_latestResult, f_linked, g_bad, g_high, g_refs, g_active, g_ticks, g_code, a_typeAbove, b_ownField, a_methodType, a_methodName, a_codeLength, a_bytes, b_starts, b_seen, b_done, b_heights, b_local, b_sure, b_objType, b_objField, b_marked, b_global, b_fMethod, b_fPc, b_fHigh, b_fLocal, b_fEntry) (nI g) v2 := by
      intro h0 post J
      subst h0
      unfold wpY_peek
      exact ev_holdN (nI tc) (nI mc) f_faultPlace f_latestResult f_linked g_bad g_high g_refs g_active g_ticks g_code a_typeAbove b_ownField a_methodType a_methodName a_codeLength a_bytes b_starts b_seen b_done b_heights b_local b_sure b_objType b_objField b_marked b_global b_fMethod b_fPc b_fHigh b_fLocal b_fEntry hg2 e2 (br_t rfl J)
    have yo : ∀ o, r = o + 1 → (v2 < 0 ∨ (¬ v2 < 0 ∧ nI 16 ≤ v2)) → ∀ post : Int32 → Prop, post (-2147483648) → wpY_peek post (nI tc, nI mc, f_faultPlace, f_latestResult, f_linked, g_bad, g_high, g_refs, g_active, g_ticks, g_code, a_typeAbove, b_ownField, a_methodType, a_methodName, a_codeLength, a_bytes, b_starts, b_seen, b_done, b_heights, b_local, b_sure, b_objType, b_objField, b_marked, b_global, b_fMethod, b_fPc, b_fHigh, b_fLocal, b_fEntry) (nI g) v2 := by
      intro o h0 z post J
      subst h0
      rw [yR_s] at e2
      unfold wpY_peek
      refine ev_hold1 (nI tc) (nI mc) f_faultPlace f_latestResult f_linked g_bad g_high g_refs g_active g_ticks g_code a_typeAbove b_ownField a_methodType a_methodName a_codeLength a_bytes b_starts b_seen b_done b_heights b_local b_sure b_objType b_objField b_marked b_global b_fMethod b_fPc b_fHigh b_fLocal b_fEntry hg2 (by omega) e2 (br_f (by decide) ?_)
      rcases z with z | ⟨z1, z2⟩
      · exact br_t z J
      · exact br_f z1 (br_t (gq_lt (n := 15) (by omega) z2) J)
    rcases gq_rng v2 (n := 16) (by omega) with z | z | ⟨n, hn, rfl⟩
    · refine ev_ghf0 (nI tc) (nI mc) f_linked f_faultPlace f_flowHeight 0 f_ticksLeft f_outcome f_latestResult a_typeAbove a_fieldSet a_methodType a_methodName a_codeLength a_bytes a_isStart a_heightAt a_kindsAt a_isWaiting a_flowKinds a_globals a_objectType a_fieldValue a_isMarked a_frameMethod a_frameAt a_frameHeight a_slots (Or.inr ⟨g, hg2, rfl, Or.inl (Or.inl z)⟩) (br_t rfl ?_)
      cases r with
      | zero => exact yn rfl _ ⟨rfl, I'⟩
      | succ o => exact yo o rfl (Or.inl z) _ ⟨rfl, I'⟩
    · refine ev_ghf0 (nI tc) (nI mc) f_linked f_faultPlace f_flowHeight 0 f_ticksLeft f_outcome f_latestResult a_typeAbove a_fieldSet a_methodType a_methodName a_codeLength a_bytes a_isStart a_heightAt a_kindsAt a_isWaiting a_flowKinds a_globals a_objectType a_fieldValue a_isMarked a_frameMethod a_frameAt a_frameHeight a_slots (Or.inr ⟨g, hg2, rfl, Or.inl (Or.inr z)⟩) (br_t rfl ?_)
      cases r with
      | zero => exact yn rfl _ ⟨rfl, I'⟩
      | succ o => exact yo o rfl (Or.inr z) _ ⟨rfl, I'⟩
    · cases r with
      | zero => exact ev_ghf0 (nI tc) (nI mc) f_linked f_faultPlace f_flowHeight 0 f_ticksLeft f_outcome f_latestResult a_typeAbove a_fieldSet a_methodType a_methodName a_codeLength a_bytes a_isStart a_heightAt a_kindsAt a_isWaiting a_flowKinds a_globals a_objectType a_fieldValue a_isMarked a_frameMethod a_frameAt a_frameHeight a_slots (Or.inr ⟨g, hg2, rfl, Or.inr ⟨n, hn, rfl, e1⟩⟩) (br_t rfl (yn rfl _ ⟨rfl, I'⟩))
      | succ o =>
        rw [yR_s] at e2
        obtain ⟨t, ht, t1, t2, f1, f2⟩ := ho o (by omega)
        refine ev_ghf (nI tc) (nI mc) f_linked f_faultPlace f_flowHeight 0 f_ticksLeft f_outcome f_latestResult a_typeAbove a_fieldSet a_methodType a_methodName a_codeLength a_bytes a_isStart a_heightAt a_kindsAt a_isWaiting a_flowKinds a_globals a_objectType a_fieldValue a_isMarked a_frameMethod a_frameAt a_frameHeight a_slots hg2 hn (by omega) (by omega) e1 t1 ?_
        have yy : ∀ post : Int32 → Prop, (bt (a_fieldSet t) n = false → post (-2147483648)) → (bt (a_fieldSet t) n = true → 8 ≤ n → b_objField (o * 16 + n) = -1 → post (-1)) → (bt (a_fieldSet t) n = true → 8 ≤ n → ∀ o', o' < 10 → b_objField (o * 16 + n) = nI o' → post (b_objType o')) → (bt (a_fieldSet t) n = true → n < 8 → post (b_objField (o * 16 + n))) → wpY_peek post (nI tc, nI mc, f_faultPlace, f_latestResult, f_linked, g_bad, g_high, g_refs, g_active, g_ticks, g_code, a_typeAbove, b_ownField, a_methodType, a_methodName, a_codeLength, a_bytes, b_starts, b_seen, b_done, b_heights, b_local, b_sure, b_objType, b_objField, b_marked, b_global, b_fMethod, b_fPc, b_fHigh, b_fLocal, b_fEntry) (nI g) (nI n) := by
          intro post J0 J1 J2 J3
          unfold wpY_peek
          refine ev_hold1 (nI tc) (nI mc) f_faultPlace f_latestResult f_linked g_bad g_high g_refs g_active g_ticks g_code a_typeAbove b_ownField a_methodType a_methodName a_codeLength a_bytes b_starts b_seen b_done b_heights b_local b_sure b_objType b_objField b_marked b_global b_fMethod b_fPc b_fHigh b_fLocal b_fEntry hg2 (by omega) e2 (br_f (by decide) (br_f (nI_pos (by omega)) (br_f (nI_nlt (a := 15) (by omega) (by omega)) ⟨vp_in_nI hg2 (by omega), ?_⟩)))
          rw [nI_clamp (by omega), e2, nI_clamp (by omega), t2]
          refine ⟨vp_in_nI (by omega) (by omega), ev_yhas (nI tc) (nI mc) f_faultPlace f_latestResult f_linked g_bad g_high g_refs g_active g_ticks g_code a_typeAbove b_ownField a_methodType a_methodName a_codeLength a_bytes b_starts b_seen b_done b_heights b_local b_sure b_objType b_objField b_marked b_global b_fMethod b_fPc b_fHigh b_fLocal b_fEntry P hn ht ?_⟩
          cases hb : bt (a_fieldSet t) n
          · exact br_t rfl (J0 hb)
          · refine br_f (by decide) ⟨vp_in_nI hg2 (by omega), ?_⟩
            simp (disch := omega) only [nI_clamp, gm_clL, gm_in, gm_inL, gm_ml, gm_al, gm_la, gm_sl, nI_add, pk_mul, gm_eqL, gm_leL, gm_ltL, gm_Lle, gm_Llt, gm_eq, gm_le, gm_lt, gm_m1, forall_eq, true_and, Nat.not_lt_zero, Nat.add_sub_cancel, gm_z2, gm_z3, gm_z9, gm_z16, gm_z18, gm_z32, gm_z36, gm_z64, gm_z1152, not_true_eq_false, not_false_eq_true, false_implies, true_implies, and_true, implies_true]
            refine ⟨fun h8 => ?_, fun h8 => J3 hb (by omega)⟩
            obtain ⟨r, hr, q1, q2, -⟩ := f2 n h8 hn
            cases r with
            | zero =>
              rw [q2]
              exact br_f (by decide) (J1 hb h8 q2)
            | succ o' =>
              have q3 := q2
              rw [yR_s] at q3
              rw [q3]
              refine br_t (nI_pos' (by omega)) ⟨vp_in_nI (by omega) (by omega), ?_⟩
              rw [nI_clamp (by omega)]
              exact J2 hb h8 o' (by omega) q3
        cases hb : bt (a_fieldSet t) n
        · exact br_t rfl (yy _ (fun _ => ⟨rfl, I'⟩) (fun z => by rw [hb] at z; exact nomatch z) (fun z => by rw [hb] at z; exact nomatch z) (fun z => by rw [hb] at z; exact nomatch z))
        · refine br_f (by decide) ⟨vp_in_nI hg2 (by omega), ?_⟩
          rw [nI_clamp (by omega), e1]
          simp (disch := omega) only [nI_clamp, gm_clL, gm_in, gm_inL, gm_ml, gm_al, gm_la, gm_sl, nI_add, pk_mul, gm_eqL, gm_leL, gm_ltL, gm_Lle, gm_Llt, gm_eq, gm_le, gm_lt, gm_m1, forall_eq, true_and, Nat.not_lt_zero, Nat.add_sub_cancel, gm_z2, gm_z3, gm_z9, gm_z16, gm_z18, gm_z32, gm_z36, gm_z64, gm_z1152, not_true_eq_false, not_false_eq_true, false_implies, true_implies, and_true, implies_true]
          refine ev_vk (by omega) ?_
          unfold is_vk
          by_cases h8 : n < 8
          · rw [if_pos h8]
            refine br_f (by decide) ?_
            rw [f1 n h8]
            exact yy _ (fun z => by rw [hb] at z; exact nomatch z) (fun _ z => absurd z (by omega)) (fun _ z => absurd z (by omega)) (fun _ _ => ⟨rfl, I'⟩)
          · rw [if_neg h8]
            refine br_t rfl ?_
            obtain ⟨r, hr, q1, q2, -⟩ := f2 n (by omega) hn
            rw [q1]
            cases r with
            | zero =>
              refine ev_toN0 (nI tc) (nI mc) f_linked f_faultPlace f_flowHeight 0 f_ticksLeft f_outcome f_latestResult a_typeAbove a_fieldSet a_methodType a_methodName a_codeLength a_bytes a_isStart a_heightAt a_kindsAt a_isWaiting a_flowKinds a_globals a_objectType a_fieldValue a_isMarked a_frameMethod a_frameAt a_frameHeight a_slots (yy _ (fun z => by rw [hb] at z; exact nomatch z) (fun _ _ _ => ⟨rfl, I'⟩) (fun _ _ o' h' e' => ?_) (fun _ z => absurd z h8))
              rw [q2, yR_0] at e'
              exact absurd e'.symm (of_eq_false (gm_m1 (by omega)))
            | succ o' =>
              rw [yR_s] at q2
              refine ev_toN (nI tc) (nI mc) f_linked f_faultPlace f_flowHeight 0 f_ticksLeft f_outcome f_latestResult a_typeAbove a_fieldSet a_methodType a_methodName a_codeLength a_bytes a_isStart a_heightAt a_kindsAt a_isWaiting a_flowKinds a_globals a_objectType a_fieldValue a_isMarked a_frameMethod a_frameAt a_frameHeight a_slots (by omega) (yy _ (fun z => by rw [hb] at z; exact nomatch z) (fun _ _ e' => ?_) (fun _ _ o2 h' e' => ?_) (fun _ z => absurd z h8))
              · rw [q2] at e'
                exact absurd e' (of_eq_false (gm_m1 (by omega)))
              · rw [q2] at e'
                cases (nI_eq (by omega) (by omega)).mp e'
                obtain ⟨t', ht', t1', t2', -⟩ := ho o' (by omega)
                rw [t1', t2']
                exact ⟨rfl, I'⟩
theorem i_vc_follow {k : Nat} {u : SX} {v : SY} (I : i_Rel k u v) (hk : k + 4 ≤ 2048) (v1 : Int32) (v2 : Int32) : wpX_follow (fun r u' => wpY_follow (fun r' v' => r' = r ∧ i_Rel (k + 4) u' v') v v1 v2) u v1 v2 := by
  obtain ⟨f_typeCount, f_methodCount, f_linked, f_faultPlace, f_flowHeight, f_active, f_ticksLeft, f_outcome, f_latestResult, a_typeAbove, a_fieldSet, a_methodType, a_methodName, a_codeLength, a_bytes, a_isStart, a_heightAt, a_kindsAt, a_isWaiting, a_flowKinds, a_globals, a_objectType, a_fieldValue, a_isMarked, a_frameMethod, a_frameAt, a_frameHeight, a_slots⟩ := u
  obtain ⟨g_types, g_methods, g_place, g_result, g_linked, g_bad, g_high, g_refs, g_active, g_ticks, g_code, b_above, b_ownField, b_mType, b_mName, b_mLength, b_bytes, b_starts, b_seen, b_done, b_heights, b_local, b_sure, b_objType, b_objField, b_marked, b_global, b_fMethod, b_fPc, b_fHigh, b_fLocal, b_fEntry⟩ := v
  have I' := I
  obtain ⟨tc, mc, h, rfl, rfl, rfl, rfl, rfl, hl, rfl, hfp, rfl, rfl, rfl, rfl, rfl, rfl, rfl, P, KB, H, hh, hL⟩ := I
  obtain ⟨h10, hg, ho⟩ := H
  have h5 := P.1
  -- the reference refuses
  have yF : (v1 < 0 ∨ (¬ v1 < 0 ∧ nI 2 ≤ v1)) ∨ (∃ g, g < 2 ∧ v1 = nI g ∧ (b_global g = yR 0 ∨ v2 < 8 ∨ (¬ v2 < 8 ∧ 15 < v2))) → ∀ post : Int32 → SY → Prop, post 0 (nI tc, nI mc, f_faultPlace, f_latestResult, f_linked, g_bad, g_high, g_refs, g_active, g_ticks, g_code, a_typeAbove, b_ownField, a_methodType, a_methodName, a_codeLength, a_bytes, b_starts, b_seen, b_done, b_heights, b_local, b_sure, b_objType, b_objField, b_marked, b_global, b_fMethod, b_fPc, b_fHigh, b_fLocal, b_fEntry) → wpY_follow post (nI tc, nI mc, f_faultPlace, f_latestResult, f_linked, g_bad, g_high, g_refs, g_active, g_ticks, g_code, a_typeAbove, b_ownField, a_methodType, a_methodName, a_codeLength, a_bytes, b_starts, b_seen, b_done, b_heights, b_local, b_sure, b_objType, b_objField, b_marked, b_global, b_fMethod, b_fPc, b_fHigh, b_fLocal, b_fEntry) v1 v2 := by
    intro z post J
    unfold wpY_follow
    rcases z with z | ⟨g, hg2, rfl, z⟩
    · exact ev_hold0 (nI tc) (nI mc) f_faultPlace f_latestResult f_linked g_bad g_high g_refs g_active g_ticks g_code a_typeAbove b_ownField a_methodType a_methodName a_codeLength a_bytes b_starts b_seen b_done b_heights b_local b_sure b_objType b_objField b_marked b_global b_fMethod b_fPc b_fHigh b_fLocal b_fEntry z (br_t rfl J)
    · obtain ⟨r, hr, e1, e2⟩ := hg g hg2
      cases r with
      | zero => exact ev_holdN (nI tc) (nI mc) f_faultPlace f_latestResult f_linked g_bad g_high g_refs g_active g_ticks g_code a_typeAbove b_ownField a_methodType a_methodName a_codeLength a_bytes b_starts b_seen b_done b_heights b_local b_sure b_objType b_objField b_marked b_global b_fMethod b_fPc b_fHigh b_fLocal b_fEntry hg2 e2 (br_t rfl J)
      | succ o =>
        rw [yR_s] at e2
        refine ev_hold1 (nI tc) (nI mc) f_faultPlace f_latestResult f_linked g_bad g_high g_refs g_active g_ticks g_code a_typeAbove b_ownField a_methodType a_methodName a_codeLength a_bytes b_starts b_seen b_done b_heights b_local b_sure b_objType b_objField b_marked b_global b_fMethod b_fPc b_fHigh b_fLocal b_fEntry hg2 (by omega) e2 (br_f (by decide) ?_)
        rcases z with z | z | z
        · rw [e2, yR_0] at z
          exact absurd z (of_eq_false (gm_m1 (by omega)))
        · exact br_t z J
        · exact br_f z.1 (br_t z.2 J)
  unfold wpX_follow
  by_cases h8 : v2 < 8
  · refine br_t h8 ?_
    rcases gq_rng v1 (n := 2) (by omega) with z | z | ⟨g, hg2, rfl⟩
    · exact yF (Or.inl (Or.inl z)) _ ⟨rfl, I'⟩
    · exact yF (Or.inl (Or.inr z)) _ ⟨rfl, I'⟩
    · exact yF (Or.inr ⟨g, hg2, rfl, Or.inr (Or.inl h8)⟩) _ ⟨rfl, I'⟩
  · refine br_f h8 ?_
    rcases gq_rng v1 (n := 2) (by omega) with z | z | ⟨g, hg2, rfl⟩
    · exact ev_ghf0 (nI tc) (nI mc) f_linked f_faultPlace f_flowHeight 0 f_ticksLeft f_outcome f_latestResult a_typeAbove a_fieldSet a_methodType a_methodName a_codeLength a_bytes a_isStart a_heightAt a_kindsAt a_isWaiting a_flowKinds a_globals a_objectType a_fieldValue a_isMarked a_frameMethod a_frameAt a_frameHeight a_slots (Or.inl (Or.inl z)) (br_t rfl (yF (Or.inl (Or.inl z)) _ ⟨rfl, I'⟩))
    · exact ev_ghf0 (nI tc) (nI mc) f_linked f_faultPlace f_flowHeight 0 f_ticksLeft f_outcome f_latestResult a_typeAbove a_fieldSet a_methodType a_methodName a_codeLength a_bytes a_isStart a_heightAt a_kindsAt a_isWaiting a_flowKinds a_globals a_objectType a_fieldValue a_isMarked a_frameMethod a_frameAt a_frameHeight a_slots (Or.inl (Or.inr z)) (br_t rfl (yF (Or.inl (Or.inr z)) _ ⟨rfl, I'⟩))
    · rcases gq_rng v2 (n := 16) (by omega) with z | z | ⟨n, hn, rfl⟩
      · exact absurd (Int32.lt_of_lt_of_le z (by decide)) h8
      · exact ev_ghf0 (nI tc) (nI mc) f_linked f_faultPlace f_flowHeight 0 f_ticksLeft f_outcome f_latestResult a_typeAbove a_fieldSet a_methodType a_methodName a_codeLength a_bytes a_isStart a_heightAt a_kindsAt a_isWaiting a_flowKinds a_globals a_objectType a_fieldValue a_isMarked a_frameMethod a_frameAt a_frameHeight a_slots (Or.inr ⟨g, hg2, rfl, Or.inl (Or.inr z)⟩) (br_t rfl (yF (Or.inr ⟨g, hg2, rfl, Or.inr (Or.inr ⟨h8, gq_lt (n := 15) (by omega) z.2⟩)⟩) _ ⟨rfl, I'⟩))
      · have n8 : 8 ≤ n := by
          rw [gm_ltL (by omega) (by omega)] at h8
          omega
        obtain ⟨r, hr, e1, e2⟩ := hg g hg2
        cases r with
        | zero => exact ev_ghf0 (nI tc) (nI mc) f_linked f_faultPlace f_flowHeight 0 f_ticksLeft f_outcome f_latestResult a_typeAbove a_fieldSet a_methodType a_methodName a_codeLength a_bytes a_isStart a_heightAt a_kindsAt a_isWaiting a_flowKinds a_globals a_objectType a_fieldValue a_isMarked a_frameMethod a_frameAt a_frameHeight a_slots (Or.inr ⟨g, hg2, rfl, Or.inr ⟨n, hn, rfl, e1⟩⟩) (br_t rfl (yF (Or.inr ⟨g, hg2, rfl, Or.inl e2⟩) _ ⟨rfl, I'⟩))
        | succ o =>
          rw [yR_s] at e2
          obtain ⟨t, ht, t1, t2, f1, f2⟩ := ho o (by omega)
          refine ev_ghf (nI tc) (nI mc) f_linked f_faultPlace f_flowHeight 0 f_ticksLeft f_outcome f_latestResult a_typeAbove a_fieldSet a_methodType a_methodName a_codeLength a_bytes a_isStart a_heightAt a_kindsAt a_isWaiting a_flowKinds a_globals a_objectType a_fieldValue a_isMarked a_frameMethod a_frameAt a_frameHeight a_slots hg2 hn (by omega) (by omega) e1 t1 ?_
          have yy : ∀ post : Int32 → SY → Prop, (bt (a_fieldSet t) n = false → post 0 (nI tc, nI mc, f_faultPlace, f_latestResult, f_linked, g_bad, g_high, g_refs, g_active, g_ticks, g_code, a_typeAbove, b_ownField, a_methodType, a_methodName, a_codeLength, a_bytes, b_starts, b_seen, b_done, b_heights, b_local, b_sure, b_objType, b_objField, b_marked, b_global, b_fMethod, b_fPc, b_fHigh, b_fLocal, b_fEntry)) → (bt (a_fieldSet t) n = true → post 1 (nI tc, nI mc, f_faultPlace, f_latestResult, f_linked, g_bad, g_high, g_refs, g_active, g_ticks, g_code, a_typeAbove, b_ownField, a_methodType, a_methodName, a_codeLength, a_bytes, b_starts, b_seen, b_done, b_heights, b_local, b_sure, b_objType, b_objField, b_marked, upd b_global g (b_objField (o * 16 + n)), b_fMethod, b_fPc, b_fHigh, b_fLocal, b_fEntry)) → wpY_follow post (nI tc, nI mc, f_faultPlace, f_latestResult, f_linked, g_bad, g_high, g_refs, g_active, g_ticks, g_code, a_typeAbove, b_ownField, a_methodType, a_methodName, a_codeLength, a_bytes, b_starts, b_seen, b_done, b_heights, b_local, b_sure, b_objType, b_objField, b_marked, b_global, b_fMethod, b_fPc, b_fHigh, b_fLocal, b_fEntry) (nI g) (nI n) := by
            intro post J0 J1
            unfold wpY_follow
            refine ev_hold1 (nI tc) (nI mc) f_faultPlace f_latestResult f_linked g_bad g_high g_refs g_active g_ticks g_code a_typeAbove b_ownField a_methodType a_methodName a_codeLength a_bytes b_starts b_seen b_done b_heights b_local b_sure b_objType b_objField b_marked b_global b_fMethod b_fPc b_fHigh b_fLocal b_fEntry hg2 (by omega) e2 (br_f (by decide) (br_f h8 (br_f (nI_nlt (a := 15) (by omega) (by omega)) ⟨vp_in_nI hg2 (by omega), ?_⟩)))
            rw [nI_clamp (by omega), e2, nI_clamp (by omega), t2]
            refine ⟨vp_in_nI (by omega) (by omega), ev_yhas (nI tc) (nI mc) f_faultPlace f_latestResult f_linked g_bad g_high g_refs g_active g_ticks g_code a_typeAbove b_ownField a_methodType a_methodName a_codeLength a_bytes b_starts b_seen b_done b_heights b_local b_sure b_objType b_objField b_marked b_global b_fMethod b_fPc b_fHigh b_fLocal b_fEntry P hn ht ?_⟩
            cases hb : bt (a_fieldSet t) n
            · exact br_t rfl (J0 hb)
            · refine br_f (by decide) ⟨vp_in_nI hg2 (by omega), ?_⟩
              simp (disch := omega) only [nI_clamp, gm_clL, gm_in, gm_inL, gm_ml, gm_al, gm_la, gm_sl, nI_add, pk_mul, gm_eqL, gm_leL, gm_ltL, gm_Lle, gm_Llt, gm_eq, gm_le, gm_lt, gm_m1, forall_eq, true_and, Nat.not_lt_zero, Nat.add_sub_cancel, gm_z2, gm_z3, gm_z9, gm_z16, gm_z18, gm_z32, gm_z36, gm_z64, gm_z1152, not_true_eq_false, not_false_eq_true, false_implies, true_implies, and_true, implies_true]
              exact J1 hb
          cases hb : bt (a_fieldSet t) n
          · exact br_t rfl (yy _ (fun _ => ⟨rfl, I'⟩) (fun z => by rw [hb] at z; exact nomatch z))
          · refine br_f (by decide) ⟨vp_in_nI hg2 (by omega), ?_⟩
            rw [nI_clamp (by omega), e1]
            simp (disch := omega) only [nI_clamp, gm_clL, gm_in, gm_inL, gm_ml, gm_al, gm_la, gm_sl, nI_add, pk_mul, gm_eqL, gm_leL, gm_ltL, gm_Lle, gm_Llt, gm_eq, gm_le, gm_lt, gm_m1, forall_eq, true_and, Nat.not_lt_zero, Nat.add_sub_cancel, gm_z2, gm_z3, gm_z9, gm_z16, gm_z18, gm_z32, gm_z36, gm_z64, gm_z1152, not_true_eq_false, not_false_eq_true, false_implies, true_implies, and_true, implies_true]
            refine yy _ (fun z => by rw [hb] at z; exact nomatch z) (fun _ => ⟨rfl, tc, mc, h, rfl, rfl, rfl, rfl, rfl, hl, rfl, hfp, rfl, rfl, rfl, rfl, rfl, rfl, rfl, P, KB, ⟨h10, fun g' hg' => ?_, ho⟩, hh, hL⟩)
            by_cases e : g' = g
            · subst e
              obtain ⟨r, hr, q1, q2, -⟩ := f2 n n8 hn
              exact ⟨r, hr, by rw [pk_us, q1], by rw [pk_us, q2]⟩
            · rw [pk_un e, pk_un e]; exact hg g' hg'
