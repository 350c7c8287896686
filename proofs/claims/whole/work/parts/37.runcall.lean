theorem ex_enter (f_typeCount f_methodCount f_linked f_faultPlace f_flowHeight f_ticksLeft f_outcome f_latestResult : Int32) (a_typeAbove a_fieldSet a_methodType a_methodName a_codeLength a_bytes a_isStart a_heightAt a_kindsAt a_isWaiting a_flowKinds a_globals a_objectType a_fieldValue a_isMarked a_frameMethod a_frameAt a_frameHeight a_slots : Nat → Int32) {post : SX → Prop} {f : Nat} {m r a : Int32} (hf : f < 6) (J : post (f_typeCount, f_methodCount, f_linked, f_faultPlace, f_flowHeight, nI (f + 1), f_ticksLeft, f_outcome, f_latestResult, a_typeAbove, a_fieldSet, a_methodType, a_methodName, a_codeLength, a_bytes, a_isStart, a_heightAt, a_kindsAt, a_isWaiting, a_flowKinds, a_globals, a_objectType, a_fieldValue, a_isMarked, upd a_frameMethod f m, upd a_frameAt f 0, upd a_frameHeight f 0, upd (upd a_slots (f * 9) r) (f * 9 + 1) a)) : wpX_enter post (f_typeCount, f_methodCount, f_linked, f_faultPlace, f_flowHeight, nI f, f_ticksLeft, f_outcome, f_latestResult, a_typeAbove, a_fieldSet, a_methodType, a_methodName, a_codeLength, a_bytes, a_isStart, a_heightAt, a_kindsAt, a_isWaiting, a_flowKinds, a_globals, a_objectType, a_fieldValue, a_isMarked, a_frameMethod, a_frameAt, a_frameHeight, a_slots) m r a := by
  unfold wpX_enter
  simp (disch := omega) only [nI_clamp, gm_clL, gm_in, gm_inL, gm_ml, gm_al, gm_la, gm_sl, nI_add, pk_mul, gm_eqL, gm_leL, gm_ltL, gm_Lle, gm_Llt, gm_eq, gm_le, gm_lt, gm_m1, forall_eq, true_and, Nat.not_lt_zero, Nat.add_sub_cancel, gm_z2, gm_z3, gm_z9, gm_z16, gm_z18, gm_z32, gm_z36, gm_z64, gm_z1152, not_true_eq_false, not_false_eq_true, false_implies, true_implies, and_true, implies_true]
  exact J
theorem ey_start (g_types g_methods g_place g_result g_linked g_bad g_high g_refs g_ticks g_code : Int32) (b_above b_ownField b_mType b_mName b_mLength b_bytes b_starts : Nat → Int32) (b_seen b_done : Nat → Int64) (b_heights b_local b_sure b_objType b_objField b_marked b_global b_fMethod b_fPc b_fHigh b_fLocal b_fEntry : Nat → Int32) {post : SY → Prop} {f : Nat} {m r a : Int32} (hf : f < 6) (J : post (g_types, g_methods, g_place, g_result, g_linked, g_bad, g_high, g_refs, nI (f + 1), g_ticks, g_code, b_above, b_ownField, b_mType, b_mName, b_mLength, b_bytes, b_starts, b_seen, b_done, b_heights, b_local, b_sure, b_objType, b_objField, b_marked, b_global, upd b_fMethod f m, upd b_fPc f 0, upd b_fHigh f 0, upd (upd b_fLocal (f * 4) r) (f * 4 + 1) a, b_fEntry)) : wpY_start post (g_types, g_methods, g_place, g_result, g_linked, g_bad, g_high, g_refs, nI f, g_ticks, g_code, b_above, b_ownField, b_mType, b_mName, b_mLength, b_bytes, b_starts, b_seen, b_done, b_heights, b_local, b_sure, b_objType, b_objField, b_marked, b_global, b_fMethod, b_fPc, b_fHigh, b_fLocal, b_fEntry) m r a := by
  unfold wpY_start
  simp (disch := omega) only [nI_clamp, gm_clL, gm_in, gm_inL, gm_ml, gm_al, gm_la, gm_sl, nI_add, pk_mul, gm_eqL, gm_leL, gm_ltL, gm_Lle, gm_Llt, gm_eq, gm_le, gm_lt, gm_m1, forall_eq, true_and, Nat.not_lt_zero, Nat.add_sub_cancel, gm_z2, gm_z3, gm_z9, gm_z16, gm_z18, gm_z32, gm_z36, gm_z64, gm_z1152, not_true_eq_false, not_false_eq_true, false_implies, true_implies, and_true, implies_true]
  exact J
/-- a new frame on top -/
theorem F1_new {tc mc h f m2 r : Nat} {mL mN by' H K su fm fa fh sl ym yp yh yl ye : Nat → Int32} {ax ay : Int32} (h8 : mc ≤ 8) (LK : rl_L tc mc mN mL by' H K su) (KB : ∀ i, ∃ a, a < 8 ∧ K i = nI a) (hm : m2 < mc) (hr : r ≤ h) (hv : VRm h (is_ak (gm_n (mN m2))) ax ay) : H (m2 * 32 + 0) = nI 0 ∧ F1 mc h mL K (upd fm f (nI m2)) (upd fa f 0) (upd fh f 0) (upd (upd sl (f * 9) (nI r)) (f * 9 + 1) ax) (upd ym f (nI m2)) (upd yp f 0) (upd yh f 0) (upd (upd yl (f * 4) (yR r)) (f * 4 + 1) ay) ye f m2 0 0 := by
  obtain ⟨S, F, k0, k1, k2⟩ := LK _ hm
  obtain ⟨-, -, w0, w1, w2, w3⟩ := wy_iD (nm := gm_n (mN m2))
  refine ⟨k0, hm, F.1, by omega, pk_us, pk_us, pk_us, pk_us, pk_us, pk_us, fun s hs => ?_⟩
  have kin := k1 s (by omega)
  rcases (by omega : s = 0 ∨ s = 1 ∨ s = 2 ∨ s = 3) with rfl | rfl | rfl | rfl
  · rw [w0] at kin
    have e1 : upd (upd sl (f * 9) (nI r)) (f * 9 + 1) ax (f * 9 + 0) = nI r := by rw [pk_un (by omega)]; exact pk_us
    have e2 : ysl (upd (upd yl (f * 4) (yR r)) (f * 4 + 1) ay) ye f 0 = yR r := by rw [ysl_0 (by omega), pk_un (by omega)]; exact pk_us
    rw [e1, e2]
    refine ⟨fun _ => ⟨r, hr, rfl, rfl⟩, fun z => ?_⟩
    rw [z] at kin
    exact absurd (kd_2 1 (by omega) kin) (by decide)
  · rw [w1] at kin
    rw [pk_us, ysl_0 (by omega), pk_us]
    unfold is_ak at hv
    refine ⟨fun z => ?_, fun z => ?_⟩
    · rw [z] at kin
      by_cases e : gm_n (mN m2) / 4 % 2 = 0
      · rw [if_pos e] at kin
        exact absurd (kd_4 0 (by omega) kin) (by decide)
      · rw [if_neg e] at hv
        exact hv.1 rfl
    · rw [z] at kin
      by_cases e : gm_n (mN m2) / 4 % 2 = 0
      · rw [if_pos e] at hv
        exact hv.2 rfl
      · rw [if_neg e] at kin
        exact absurd (kd_2 1 (by omega) kin) (by decide)
  · rw [w2] at kin
    refine ⟨fun z => ?_, fun z => ?_⟩
    · rw [z] at kin; exact absurd (kd_4 2 (by omega) kin) (by decide)
    · rw [z] at kin; exact absurd (kd_2 2 (by omega) kin) (by decide)
  · rw [w3] at kin
    refine ⟨fun z => ?_, fun z => ?_⟩
    · rw [z] at kin; exact absurd (kd_4 2 (by omega) kin) (by decide)
    · rw [z] at kin; exact absurd (kd_2 2 (by omega) kin) (by decide)
theorem ex_call (f_typeCount f_linked f_faultPlace f_flowHeight f_outcome f_latestResult : Int32) (a_typeAbove a_fieldSet a_methodType a_methodName a_codeLength a_bytes a_isStart a_heightAt a_kindsAt a_isWaiting a_flowKinds a_globals a_objectType a_fieldValue a_isMarked a_frameMethod a_frameAt a_frameHeight a_slots : Nat → Int32) {post : SX → Prop} {f t h r mc : Nat} {y : Int32} {q : Option Nat} (hf : f < 6) (ht : t ≤ 100) (hh : a_frameHeight f = nI h) (h2 : 2 ≤ h) (h5 : h ≤ 5) (hr : r ≤ 10) (h8 : mc ≤ 8) (er : a_slots (f * 9 + 4 + (h - 1 - 1)) = nI r) (hq : ∀ m, q = some m → m < mc)
    (K : ∀ o, r = o + 1 → ∀ post : Int32 → Prop, post (foE q) → wpX_findMethod post (f_typeCount, nI mc, f_linked, f_faultPlace, f_flowHeight, nI (f + 1), nI t, f_outcome, f_latestResult, a_typeAbove, a_fieldSet, a_methodType, a_methodName, a_codeLength, a_bytes, a_isStart, a_heightAt, a_kindsAt, a_isWaiting, a_flowKinds, a_globals, a_objectType, a_fieldValue, a_isMarked, a_frameMethod, a_frameAt, upd (upd a_frameHeight f (nI (h - 1))) f (nI (h - 1 - 1)), a_slots) (a_objectType (o + 1)) y)
    (J0 : r = 0 → post (f_typeCount, nI mc, f_linked, f_faultPlace, f_flowHeight, nI (f + 1), nI t, 1, 1, a_typeAbove, a_fieldSet, a_methodType, a_methodName, a_codeLength, a_bytes, a_isStart, a_heightAt, a_kindsAt, a_isWaiting, a_flowKinds, a_globals, a_objectType, a_fieldValue, a_isMarked, a_frameMethod, a_frameAt, upd (upd a_frameHeight f (nI (h - 1))) f (nI (h - 1 - 1)), a_slots))
    (J4 : r ≠ 0 → q = none → post (f_typeCount, nI mc, f_linked, f_faultPlace, f_flowHeight, nI (f + 1), nI t, 1, 4, a_typeAbove, a_fieldSet, a_methodType, a_methodName, a_codeLength, a_bytes, a_isStart, a_heightAt, a_kindsAt, a_isWaiting, a_flowKinds, a_globals, a_objectType, a_fieldValue, a_isMarked, a_frameMethod, a_frameAt, upd (upd a_frameHeight f (nI (h - 1))) f (nI (h - 1 - 1)), a_slots))
    (J5 : r ≠ 0 → q ≠ none → f = 5 → post (f_typeCount, nI mc, f_linked, f_faultPlace, f_flowHeight, nI (f + 1), nI t, 1, 5, a_typeAbove, a_fieldSet, a_methodType, a_methodName, a_codeLength, a_bytes, a_isStart, a_heightAt, a_kindsAt, a_isWaiting, a_flowKinds, a_globals, a_objectType, a_fieldValue, a_isMarked, a_frameMethod, a_frameAt, upd (upd a_frameHeight f (nI (h - 1))) f (nI (h - 1 - 1)), a_slots))
    (J2 : r ≠ 0 → q ≠ none → f ≠ 5 → t = 0 → post (f_typeCount, nI mc, f_linked, f_faultPlace, f_flowHeight, nI (f + 1), nI t, 2, 0, a_typeAbove, a_fieldSet, a_methodType, a_methodName, a_codeLength, a_bytes, a_isStart, a_heightAt, a_kindsAt, a_isWaiting, a_flowKinds, a_globals, a_objectType, a_fieldValue, a_isMarked, a_frameMethod, a_frameAt, upd (upd a_frameHeight f (nI (h - 1))) f (nI (h - 1 - 1)), a_slots))
    (J1 : r ≠ 0 → ∀ m t', q = some m → f ≠ 5 → t = t' + 1 → post (f_typeCount, nI mc, f_linked, f_faultPlace, f_flowHeight, nI (f + 1 + 1), nI t', f_outcome, f_latestResult, a_typeAbove, a_fieldSet, a_methodType, a_methodName, a_codeLength, a_bytes, a_isStart, a_heightAt, a_kindsAt, a_isWaiting, a_flowKinds, a_globals, a_objectType, a_fieldValue, a_isMarked, upd a_frameMethod (f + 1) (nI m), upd a_frameAt (f + 1) 0, upd (upd (upd a_frameHeight f (nI (h - 1))) f (nI (h - 1 - 1))) (f + 1) 0, upd (upd a_slots ((f + 1) * 9) (nI r)) ((f + 1) * 9 + 1) (a_slots (f * 9 + 4 + (h - 1))))) :
    wpX_callMethod post (f_typeCount, nI mc, f_linked, f_faultPlace, f_flowHeight, nI (f + 1), nI t, f_outcome, f_latestResult, a_typeAbove, a_fieldSet, a_methodType, a_methodName, a_codeLength, a_bytes, a_isStart, a_heightAt, a_kindsAt, a_isWaiting, a_flowKinds, a_globals, a_objectType, a_fieldValue, a_isMarked, a_frameMethod, a_frameAt, a_frameHeight, a_slots) (nI f) y := by
  unfold wpX_callMethod
  refine ex_pop f_typeCount (nI mc) f_linked f_faultPlace f_flowHeight (nI (f + 1)) (nI t) f_outcome f_latestResult a_typeAbove a_fieldSet a_methodType a_methodName a_codeLength a_bytes a_isStart a_heightAt a_kindsAt a_isWaiting a_flowKinds a_globals a_objectType a_fieldValue a_isMarked a_frameMethod a_frameAt a_frameHeight a_slots hf hh (by omega) h5 (ex_pop f_typeCount (nI mc) f_linked f_faultPlace f_flowHeight (nI (f + 1)) (nI t) f_outcome f_latestResult a_typeAbove a_fieldSet a_methodType a_methodName a_codeLength a_bytes a_isStart a_heightAt a_kindsAt a_isWaiting a_flowKinds a_globals a_objectType a_fieldValue a_isMarked a_frameMethod a_frameAt (upd a_frameHeight f (nI (h - 1))) a_slots hf pk_us (by omega) (by omega) ?_)
  dsimp only
  rw [er]
  cases r with
  | zero => exact br_t rfl (J0 rfl)
  | succ o =>
    refine br_f (nI_ne0 (by omega) (by omega)) ⟨vp_in_nI (by omega) (by omega), ?_⟩
    rw [nI_clamp (by omega)]
    refine K o rfl _ ?_
    cases q with
    | none => exact br_t rfl (J4 (by omega) rfl)
    | some m =>
      have hm := hq m rfl
      refine br_f (of_eq_false (gm_m1 (by omega))) (pk_eq (f + 1) 6 (fun e => J5 (by omega) (fun z => nomatch z) (by omega)) (fun e => ?_))
      cases t with
      | zero => exact ex_tick0 f_typeCount (nI mc) f_linked f_faultPlace f_flowHeight (nI (f + 1)) f_outcome f_latestResult a_typeAbove a_fieldSet a_methodType a_methodName a_codeLength a_bytes a_isStart a_heightAt a_kindsAt a_isWaiting a_flowKinds a_globals a_objectType a_fieldValue a_isMarked a_frameMethod a_frameAt (upd (upd a_frameHeight f (nI (h - 1))) f (nI (h - 1 - 1))) a_slots (br_t rfl (J2 (by omega) (fun z => nomatch z) (by omega) rfl))
      | succ t =>
        refine ex_tick1 f_typeCount (nI mc) f_linked f_faultPlace f_flowHeight (nI (f + 1)) f_outcome f_latestResult a_typeAbove a_fieldSet a_methodType a_methodName a_codeLength a_bytes a_isStart a_heightAt a_kindsAt a_isWaiting a_flowKinds a_globals a_objectType a_fieldValue a_isMarked a_frameMethod a_frameAt (upd (upd a_frameHeight f (nI (h - 1))) f (nI (h - 1 - 1))) a_slots (by omega) (br_f (by decide) ?_)
        exact ex_enter f_typeCount (nI mc) f_linked f_faultPlace f_flowHeight (nI t) f_outcome f_latestResult a_typeAbove a_fieldSet a_methodType a_methodName a_codeLength a_bytes a_isStart a_heightAt a_kindsAt a_isWaiting a_flowKinds a_globals a_objectType a_fieldValue a_isMarked a_frameMethod a_frameAt (upd (upd a_frameHeight f (nI (h - 1))) f (nI (h - 1 - 1))) a_slots (by omega) (J1 (by omega) m t rfl (by omega) rfl)
theorem ey_enter (g_types g_place g_result g_linked g_bad g_high g_refs g_code : Int32) (b_above b_ownField b_mType b_mName b_mLength b_bytes b_starts : Nat → Int32) (b_seen b_done : Nat → Int64) (b_heights b_local b_sure b_objType b_objField b_marked b_global b_fMethod b_fPc b_fHigh b_fLocal b_fEntry : Nat → Int32) {post : Int32 → SY → Prop} {f t h r mc : Nat} {y a : Int32} {q : Option Nat} (hf : f < 6) (ht : t ≤ 100) (hh : b_fHigh f = nI h) (h2 : 2 ≤ h) (h5 : h ≤ 5) (hr : r ≤ 10) (h8 : mc ≤ 8) (hq : ∀ m, q = some m → m < mc)
    (K : ∀ o, r = o + 1 → ∀ post : Int32 → Prop, post (foE q) → wpY_methodOf post (g_types, nI mc, g_place, g_result, g_linked, g_bad, g_high, g_refs, nI (f + 1), nI t, g_code, b_above, b_ownField, b_mType, b_mName, b_mLength, b_bytes, b_starts, b_seen, b_done, b_heights, b_local, b_sure, b_objType, b_objField, b_marked, b_global, b_fMethod, b_fPc, b_fHigh, b_fLocal, b_fEntry) (b_objType o) y)
    (J0 : r = 0 → post 1 (g_types, nI mc, g_place, g_result, g_linked, g_bad, g_high, g_refs, nI (f + 1), nI t, 1, b_above, b_ownField, b_mType, b_mName, b_mLength, b_bytes, b_starts, b_seen, b_done, b_heights, b_local, b_sure, b_objType, b_objField, b_marked, b_global, b_fMethod, b_fPc, b_fHigh, b_fLocal, b_fEntry))
    (J4 : r ≠ 0 → q = none → post 1 (g_types, nI mc, g_place, g_result, g_linked, g_bad, g_high, g_refs, nI (f + 1), nI t, 4, b_above, b_ownField, b_mType, b_mName, b_mLength, b_bytes, b_starts, b_seen, b_done, b_heights, b_local, b_sure, b_objType, b_objField, b_marked, b_global, b_fMethod, b_fPc, b_fHigh, b_fLocal, b_fEntry))
    (J5 : r ≠ 0 → q ≠ none → f = 5 → post 1 (g_types, nI mc, g_place, g_result, g_linked, g_bad, g_high, g_refs, nI (f + 1), nI t, 5, b_above, b_ownField, b_mType, b_mName, b_mLength, b_bytes, b_starts, b_seen, b_done, b_heights, b_local, b_sure, b_objType, b_objField, b_marked, b_global, b_fMethod, b_fPc, b_fHigh, b_fLocal, b_fEntry))
    (J2 : r ≠ 0 → q ≠ none → f ≠ 5 → t = 0 → post 2 (g_types, nI mc, g_place, g_result, g_linked, g_bad, g_high, g_refs, nI (f + 1), nI t, g_code, b_above, b_ownField, b_mType, b_mName, b_mLength, b_bytes, b_starts, b_seen, b_done, b_heights, b_local, b_sure, b_objType, b_objField, b_marked, b_global, b_fMethod, b_fPc, b_fHigh, b_fLocal, b_fEntry))
    (J1 : r ≠ 0 → ∀ m t', q = some m → f ≠ 5 → t = t' + 1 → post (-1) (g_types, nI mc, g_place, g_result, g_linked, g_bad, g_high, g_refs, nI (f + 1 + 1), nI t', g_code, b_above, b_ownField, b_mType, b_mName, b_mLength, b_bytes, b_starts, b_seen, b_done, b_heights, b_local, b_sure, b_objType, b_objField, b_marked, b_global, upd b_fMethod (f + 1) (nI m), upd b_fPc (f + 1) 0, upd (upd b_fHigh f (nI (h - 2))) (f + 1) 0, upd (upd b_fLocal ((f + 1) * 4) (yR r)) ((f + 1) * 4 + 1) a, b_fEntry)) :
    wpY_enter post (g_types, nI mc, g_place, g_result, g_linked, g_bad, g_high, g_refs, nI (f + 1), nI t, g_code, b_above, b_ownField, b_mType, b_mName, b_mLength, b_bytes, b_starts, b_seen, b_done, b_heights, b_local, b_sure, b_objType, b_objField, b_marked, b_global, b_fMethod, b_fPc, b_fHigh, b_fLocal, b_fEntry) (yR r) y a := by
  unfold wpY_enter
  cases r with
  | zero =>
    rw [yR_0]
    exact br_f (by decide) (J0 rfl)
  | succ o =>
    rw [yR_s] at J1 ⊢
    refine br_t (nI_pos' (by omega)) ⟨vp_in_nI (by omega) (by omega), ?_⟩
    rw [nI_clamp (by omega)]
    refine K o rfl _ ?_
    cases q with
    | none => exact br_f (by decide) (J4 (by omega) rfl)
    | some m =>
      have hm := hq m rfl
      refine br_t (nI_pos' (by omega)) (pk_eq (f + 1) 6 (fun e => J5 (by omega) (fun z => nomatch z) (by omega)) (fun e => ?_))
      cases t with
      | zero => exact br_t rfl (J2 (by omega) (fun z => nomatch z) (by omega) rfl)
      | succ t =>
        refine br_f (nI_ne0 (by omega) (by omega)) (nm_r (nI_pred t) ?_)
        rw [nI_pred, nI_clamp (by omega), hh]
        refine ⟨vp_in_nI hf (by omega), vp_in_nI hf (by omega), nm_r (by rw [show nI h - 2 = nI (h - 2) from gm_sl (n := 2) h2]) ?_⟩
        exact ey_start g_types (nI mc) g_place g_result g_linked g_bad g_high g_refs (nI t) g_code b_above b_ownField b_mType b_mName b_mLength b_bytes b_starts b_seen b_done b_heights b_local b_sure b_objType b_objField b_marked b_global b_fMethod b_fPc (upd b_fHigh f (nI (h - 2))) b_fLocal b_fEntry (by omega) (J1 (by omega) m t rfl (by omega) rfl)
