theorem run_step {μ : Nat} {u : SX} {v : SY} (I : RS μ u v) : SO μ u v := by
  obtain ⟨f_typeCount, f_methodCount, f_linked, f_faultPlace, f_flowHeight, f_active, f_ticksLeft, f_outcome, f_latestResult, a_typeAbove, a_fieldSet, a_methodType, a_methodName, a_codeLength, a_bytes, a_isStart, a_heightAt, a_kindsAt, a_isWaiting, a_flowKinds, a_globals, a_objectType, a_fieldValue, a_isMarked, a_frameMethod, a_frameAt, a_frameHeight, a_slots⟩ := u
  obtain ⟨g_types, g_methods, g_place, g_result, g_linked, g_bad, g_high, g_refs, g_active, g_ticks, g_code, b_above, b_ownField, b_mType, b_mName, b_mLength, b_bytes, b_starts, b_seen, b_done, b_heights, b_local, b_sure, b_objType, b_objField, b_marked, b_global, b_fMethod, b_fPc, b_fHigh, b_fLocal, b_fEntry⟩ := v
  obtain ⟨tc, mc, h, n, t, mF, pF, hF, ⟨rfl, rfl, rfl, rfl, rfl, rfl, rfl, rfl, rfl, rfl, rfl, rfl, rfl, P, KB, LK, HH⟩, rfl, rfl, n1, n6, rfl, rfl, t100, rfl, R, rfl⟩ := I
  obtain ⟨f, rfl⟩ : ∃ f, n = f + 1 := ⟨n - 1, by omega⟩
  have C : CT tc mc h f t (mF f) (pF f) (hF f) (gm_n (a_bytes (mF f * 32 + pF f))) (gm_n (a_bytes (mF f * 32 + pF f + 1))) (gm_n (a_methodName (mF f))) a_typeAbove a_fieldSet b_ownField a_methodName a_codeLength a_bytes a_heightAt a_kindsAt b_sure a_globals a_objectType a_fieldValue b_global b_objType b_objField a_frameMethod a_frameAt a_frameHeight a_slots b_fMethod b_fPc b_fHigh b_fLocal b_fEntry mF pF hF := ⟨P, KB, LK, HH, n6, t100, R, rfl, rfl, rfl, rfl, rfl, rfl⟩
  have ho := (ct_F C).2.2.2.2.2.1
  rcases is_21 ho with e | e | e | e | e | e | e | e | e | e | e | e | e | e | e | e | e | e | e | e | e
  · exact op_0 f_flowHeight f_latestResult a_typeAbove a_fieldSet a_methodType a_methodName a_codeLength a_bytes a_isStart a_heightAt a_kindsAt a_isWaiting a_flowKinds a_globals a_objectType a_fieldValue a_isMarked a_frameMethod a_frameAt a_frameHeight a_slots g_result g_bad g_high g_refs g_code b_ownField b_starts b_seen b_done b_heights b_local b_sure b_objType b_objField b_marked b_global b_fMethod b_fPc b_fHigh b_fLocal b_fEntry C e
  · exact op_1 f_flowHeight f_latestResult a_typeAbove a_fieldSet a_methodType a_methodName a_codeLength a_bytes a_isStart a_heightAt a_kindsAt a_isWaiting a_flowKinds a_globals a_objectType a_fieldValue a_isMarked a_frameMethod a_frameAt a_frameHeight a_slots g_result g_bad g_high g_refs g_code b_ownField b_starts b_seen b_done b_heights b_local b_sure b_objType b_objField b_marked b_global b_fMethod b_fPc b_fHigh b_fLocal b_fEntry C e
  · exact op_2 f_flowHeight f_latestResult a_typeAbove a_fieldSet a_methodType a_methodName a_codeLength a_bytes a_isStart a_heightAt a_kindsAt a_isWaiting a_flowKinds a_globals a_objectType a_fieldValue a_isMarked a_frameMethod a_frameAt a_frameHeight a_slots g_result g_bad g_high g_refs g_code b_ownField b_starts b_seen b_done b_heights b_local b_sure b_objType b_objField b_marked b_global b_fMethod b_fPc b_fHigh b_fLocal b_fEntry C e
  · exact op_3 f_flowHeight f_latestResult a_typeAbove a_fieldSet a_methodType a_methodName a_codeLength a_bytes a_isStart a_heightAt a_kindsAt a_isWaiting a_flowKinds a_globals a_objectType a_fieldValue a_isMarked a_frameMethod a_frameAt a_frameHeight a_slots g_result g_bad g_high g_refs g_code b_ownField b_starts b_seen b_done b_heights b_local b_sure b_objType b_objField b_marked b_global b_fMethod b_fPc b_fHigh b_fLocal b_fEntry C e
  · exact op_4 f_flowHeight f_latestResult a_typeAbove a_fieldSet a_methodType a_methodName a_codeLength a_bytes a_isStart a_heightAt a_kindsAt a_isWaiting a_flowKinds a_globals a_objectType a_fieldValue a_isMarked a_frameMethod a_frameAt a_frameHeight a_slots g_result g_bad g_high g_refs g_code b_ownField b_starts b_seen b_done b_heights b_local b_sure b_objType b_objField b_marked b_global b_fMethod b_fPc b_fHigh b_fLocal b_fEntry C e
  · exact op_5 f_flowHeight f_latestResult a_typeAbove a_fieldSet a_methodType a_methodName a_codeLength a_bytes a_isStart a_heightAt a_kindsAt a_isWaiting a_flowKinds a_globals a_objectType a_fieldValue a_isMarked a_frameMethod a_frameAt a_frameHeight a_slots g_result g_bad g_high g_refs g_code b_ownField b_starts b_seen b_done b_heights b_local b_sure b_objType b_objField b_marked b_global b_fMethod b_fPc b_fHigh b_fLocal b_fEntry C e
  · exact op_6 f_flowHeight f_latestResult a_typeAbove a_fieldSet a_methodType a_methodName a_codeLength a_bytes a_isStart a_heightAt a_kindsAt a_isWaiting a_flowKinds a_globals a_objectType a_fieldValue a_isMarked a_frameMethod a_frameAt a_frameHeight a_slots g_result g_bad g_high g_refs g_code b_ownField b_starts b_seen b_done b_heights b_local b_sure b_objType b_objField b_marked b_global b_fMethod b_fPc b_fHigh b_fLocal b_fEntry C e
  · exact op_7 f_flowHeight f_latestResult a_typeAbove a_fieldSet a_methodType a_methodName a_codeLength a_bytes a_isStart a_heightAt a_kindsAt a_isWaiting a_flowKinds a_globals a_objectType a_fieldValue a_isMarked a_frameMethod a_frameAt a_frameHeight a_slots g_result g_bad g_high g_refs g_code b_ownField b_starts b_seen b_done b_heights b_local b_sure b_objType b_objField b_marked b_global b_fMethod b_fPc b_fHigh b_fLocal b_fEntry C e
  · exact op_8 f_flowHeight f_latestResult a_typeAbove a_fieldSet a_methodType a_methodName a_codeLength a_bytes a_isStart a_heightAt a_kindsAt a_isWaiting a_flowKinds a_globals a_objectType a_fieldValue a_isMarked a_frameMethod a_frameAt a_frameHeight a_slots g_result g_bad g_high g_refs g_code b_ownField b_starts b_seen b_done b_heights b_local b_sure b_objType b_objField b_marked b_global b_fMethod b_fPc b_fHigh b_fLocal b_fEntry C e
  · exact op_9 f_flowHeight f_latestResult a_typeAbove a_fieldSet a_methodType a_methodName a_codeLength a_bytes a_isStart a_heightAt a_kindsAt a_isWaiting a_flowKinds a_globals a_objectType a_fieldValue a_isMarked a_frameMethod a_frameAt a_frameHeight a_slots g_result g_bad g_high g_refs g_code b_ownField b_starts b_seen b_done b_heights b_local b_sure b_objType b_objField b_marked b_global b_fMethod b_fPc b_fHigh b_fLocal b_fEntry C e
  · exact op_10 f_flowHeight f_latestResult a_typeAbove a_fieldSet a_methodType a_methodName a_codeLength a_bytes a_isStart a_heightAt a_kindsAt a_isWaiting a_flowKinds a_globals a_objectType a_fieldValue a_isMarked a_frameMethod a_frameAt a_frameHeight a_slots g_result g_bad g_high g_refs g_code b_ownField b_starts b_seen b_done b_heights b_local b_sure b_objType b_objField b_marked b_global b_fMethod b_fPc b_fHigh b_fLocal b_fEntry C e
  · exact op_11 f_flowHeight f_latestResult a_typeAbove a_fieldSet a_methodType a_methodName a_codeLength a_bytes a_isStart a_heightAt a_kindsAt a_isWaiting a_flowKinds a_globals a_objectType a_fieldValue a_isMarked a_frameMethod a_frameAt a_frameHeight a_slots g_result g_bad g_high g_refs g_code b_ownField b_starts b_seen b_done b_heights b_local b_sure b_objType b_objField b_marked b_global b_fMethod b_fPc b_fHigh b_fLocal b_fEntry C e
  · exact op_12 f_flowHeight f_latestResult a_typeAbove a_fieldSet a_methodType a_methodName a_codeLength a_bytes a_isStart a_heightAt a_kindsAt a_isWaiting a_flowKinds a_globals a_objectType a_fieldValue a_isMarked a_frameMethod a_frameAt a_frameHeight a_slots g_result g_bad g_high g_refs g_code b_ownField b_starts b_seen b_done b_heights b_local b_sure b_objType b_objField b_marked b_global b_fMethod b_fPc b_fHigh b_fLocal b_fEntry C e
  · exact op_13 f_flowHeight f_latestResult a_typeAbove a_fieldSet a_methodType a_methodName a_codeLength a_bytes a_isStart a_heightAt a_kindsAt a_isWaiting a_flowKinds a_globals a_objectType a_fieldValue a_isMarked a_frameMethod a_frameAt a_frameHeight a_slots g_result g_bad g_high g_refs g_code b_ownField b_starts b_seen b_done b_heights b_local b_sure b_objType b_objField b_marked b_global b_fMethod b_fPc b_fHigh b_fLocal b_fEntry C e
  · exact op_14 f_flowHeight f_latestResult a_typeAbove a_fieldSet a_methodType a_methodName a_codeLength a_bytes a_isStart a_heightAt a_kindsAt a_isWaiting a_flowKinds a_globals a_objectType a_fieldValue a_isMarked a_frameMethod a_frameAt a_frameHeight a_slots g_result g_bad g_high g_refs g_code b_ownField b_starts b_seen b_done b_heights b_local b_sure b_objType b_objField b_marked b_global b_fMethod b_fPc b_fHigh b_fLocal b_fEntry C e
  · exact op_15 f_flowHeight f_latestResult a_typeAbove a_fieldSet a_methodType a_methodName a_codeLength a_bytes a_isStart a_heightAt a_kindsAt a_isWaiting a_flowKinds a_globals a_objectType a_fieldValue a_isMarked a_frameMethod a_frameAt a_frameHeight a_slots g_result g_bad g_high g_refs g_code b_ownField b_starts b_seen b_done b_heights b_local b_sure b_objType b_objField b_marked b_global b_fMethod b_fPc b_fHigh b_fLocal b_fEntry C e
  · exact op_16 f_flowHeight f_latestResult a_typeAbove a_fieldSet a_methodType a_methodName a_codeLength a_bytes a_isStart a_heightAt a_kindsAt a_isWaiting a_flowKinds a_globals a_objectType a_fieldValue a_isMarked a_frameMethod a_frameAt a_frameHeight a_slots g_result g_bad g_high g_refs g_code b_ownField b_starts b_seen b_done b_heights b_local b_sure b_objType b_objField b_marked b_global b_fMethod b_fPc b_fHigh b_fLocal b_fEntry C e
  · exact op_17 f_flowHeight f_latestResult a_typeAbove a_fieldSet a_methodType a_methodName a_codeLength a_bytes a_isStart a_heightAt a_kindsAt a_isWaiting a_flowKinds a_globals a_objectType a_fieldValue a_isMarked a_frameMethod a_frameAt a_frameHeight a_slots g_result g_bad g_high g_refs g_code b_ownField b_starts b_seen b_done b_heights b_local b_sure b_objType b_objField b_marked b_global b_fMethod b_fPc b_fHigh b_fLocal b_fEntry C e
  · exact op_18 f_flowHeight f_latestResult a_typeAbove a_fieldSet a_methodType a_methodName a_codeLength a_bytes a_isStart a_heightAt a_kindsAt a_isWaiting a_flowKinds a_globals a_objectType a_fieldValue a_isMarked a_frameMethod a_frameAt a_frameHeight a_slots g_result g_bad g_high g_refs g_code b_ownField b_starts b_seen b_done b_heights b_local b_sure b_objType b_objField b_marked b_global b_fMethod b_fPc b_fHigh b_fLocal b_fEntry C e
  · exact op_19 f_flowHeight f_latestResult a_typeAbove a_fieldSet a_methodType a_methodName a_codeLength a_bytes a_isStart a_heightAt a_kindsAt a_isWaiting a_flowKinds a_globals a_objectType a_fieldValue a_isMarked a_frameMethod a_frameAt a_frameHeight a_slots g_result g_bad g_high g_refs g_code b_ownField b_starts b_seen b_done b_heights b_local b_sure b_objType b_objField b_marked b_global b_fMethod b_fPc b_fHigh b_fLocal b_fEntry C e
  · exact op_20 f_flowHeight f_latestResult a_typeAbove a_fieldSet a_methodType a_methodName a_codeLength a_bytes a_isStart a_heightAt a_kindsAt a_isWaiting a_flowKinds a_globals a_objectType a_fieldValue a_isMarked a_frameMethod a_frameAt a_frameHeight a_slots g_result g_bad g_high g_refs g_code b_ownField b_starts b_seen b_done b_heights b_local b_sure b_objType b_objField b_marked b_global b_fMethod b_fPc b_fHigh b_fLocal b_fEntry C e
/-! ===== the loops ===== -/
def XL (post : Int32 → SX → Prop) (n : Nat) (s : Int32) (u : SX) : Prop := match u with
  | (f_typeCount, f_methodCount, f_linked, f_faultPlace, f_flowHeight, f_active, f_ticksLeft, f_outcome, f_latestResult, a_typeAbove, a_fieldSet, a_methodType, a_methodName, a_codeLength, a_bytes, a_isStart, a_heightAt, a_kindsAt, a_isWaiting, a_flowKinds, a_globals, a_objectType, a_fieldValue, a_isMarked, a_frameMethod, a_frameAt, a_frameHeight, a_slots) => wX_invoke_109 post n s f_typeCount f_methodCount f_linked f_faultPlace f_flowHeight f_active f_ticksLeft f_outcome f_latestResult a_typeAbove a_fieldSet a_methodType a_methodName a_codeLength a_bytes a_isStart a_heightAt a_kindsAt a_isWaiting a_flowKinds a_globals a_objectType a_fieldValue a_isMarked a_frameMethod a_frameAt a_frameHeight a_slots
def XE (post : Int32 → SX → Prop) (u : SX) : Prop := match u with
  | (f_typeCount, f_methodCount, f_linked, f_faultPlace, f_flowHeight, f_active, f_ticksLeft, f_outcome, f_latestResult, a_typeAbove, a_fieldSet, a_methodType, a_methodName, a_codeLength, a_bytes, a_isStart, a_heightAt, a_kindsAt, a_isWaiting, a_flowKinds, a_globals, a_objectType, a_fieldValue, a_isMarked, a_frameMethod, a_frameAt, a_frameHeight, a_slots) => post f_outcome (f_typeCount, f_methodCount, f_linked, f_faultPlace, f_flowHeight, 0, f_ticksLeft, f_outcome, f_latestResult, a_typeAbove, a_fieldSet, a_methodType, a_methodName, a_codeLength, a_bytes, a_isStart, a_heightAt, a_kindsAt, a_isWaiting, a_flowKinds, a_globals, a_objectType, a_fieldValue, a_isMarked, a_frameMethod, a_frameAt, a_frameHeight, a_slots)
def YL (post : Int32 → SY → Prop) (n : Nat) (r s : Int32) (v : SY) : Prop := match v with
  | (g_types, g_methods, g_place, g_result, g_linked, g_bad, g_high, g_refs, g_active, g_ticks, g_code, b_above, b_ownField, b_mType, b_mName, b_mLength, b_bytes, b_starts, b_seen, b_done, b_heights, b_local, b_sure, b_objType, b_objField, b_marked, b_global, b_fMethod, b_fPc, b_fHigh, b_fLocal, b_fEntry) => wY_invoke_108 post n r s g_types g_methods g_place g_result g_linked g_bad g_high g_refs g_active g_ticks g_code b_above b_ownField b_mType b_mName b_mLength b_bytes b_starts b_seen b_done b_heights b_local b_sure b_objType b_objField b_marked b_global b_fMethod b_fPc b_fHigh b_fLocal b_fEntry
def YE (post : Int32 → SY → Prop) (r : Int32) (v : SY) : Prop := match v with
  | (g_types, g_methods, g_place, g_result, g_linked, g_bad, g_high, g_refs, g_active, g_ticks, g_code, b_above, b_ownField, b_mType, b_mName, b_mLength, b_bytes, b_starts, b_seen, b_done, b_heights, b_local, b_sure, b_objType, b_objField, b_marked, b_global, b_fMethod, b_fPc, b_fHigh, b_fLocal, b_fEntry) => wY_invoke_133 post r g_types g_methods g_place g_result g_linked g_bad g_high g_refs g_active g_ticks g_code b_above b_ownField b_mType b_mName b_mLength b_bytes b_starts b_seen b_done b_heights b_local b_sure b_objType b_objField b_marked b_global b_fMethod b_fPc b_fHigh b_fLocal b_fEntry
theorem xl_go {μ n s : Nat} {post : Int32 → SX → Prop} {u u' : SX} {v : SY} (I : RS μ u v) (hs : s < 999999) (g : XG u u') (J : XL post n (nI (s + 1)) u') : XL post (n + 1) (nI s) u := by
  obtain ⟨f_typeCount, f_methodCount, f_linked, f_faultPlace, f_flowHeight, f_active, f_ticksLeft, f_outcome, f_latestResult, a_typeAbove, a_fieldSet, a_methodType, a_methodName, a_codeLength, a_bytes, a_isStart, a_heightAt, a_kindsAt, a_isWaiting, a_flowKinds, a_globals, a_objectType, a_fieldValue, a_isMarked, a_frameMethod, a_frameAt, a_frameHeight, a_slots⟩ := u
  obtain ⟨f_typeCount1, f_methodCount1, f_linked1, f_faultPlace1, f_flowHeight1, f_active1, f_ticksLeft1, f_outcome1, f_latestResult1, a_typeAbove1, a_fieldSet1, a_methodType1, a_methodName1, a_codeLength1, a_bytes1, a_isStart1, a_heightAt1, a_kindsAt1, a_isWaiting1, a_flowKinds1, a_globals1, a_objectType1, a_fieldValue1, a_isMarked1, a_frameMethod1, a_frameAt1, a_frameHeight1, a_slots1⟩ := u'
  obtain ⟨g_types, g_methods, g_place, g_result, g_linked, g_bad, g_high, g_refs, g_active, g_ticks, g_code, b_above, b_ownField, b_mType, b_mName, b_mLength, b_bytes, b_starts, b_seen, b_done, b_heights, b_local, b_sure, b_objType, b_objField, b_marked, b_global, b_fMethod, b_fPc, b_fHigh, b_fLocal, b_fEntry⟩ := v
  obtain ⟨tc, mc, h, m, t, mF, pF, hF, -, -, -, -, -, -, -, -, ho, -⟩ := I
  show wX_invoke_109 post (n + 1) (nI s) f_typeCount f_methodCount f_linked f_faultPlace f_flowHeight f_active f_ticksLeft f_outcome f_latestResult a_typeAbove a_fieldSet a_methodType a_methodName a_codeLength a_bytes a_isStart a_heightAt a_kindsAt a_isWaiting a_flowKinds a_globals a_objectType a_fieldValue a_isMarked a_frameMethod a_frameAt a_frameHeight a_slots
  unfold wX_invoke_109
  refine br_f (nI_ge (b := 1000000) (by omega) (by decide)) (br_t ho (g _ ?_))
  exact nm_r (nI_1 s) J
theorem yl_go {n s : Nat} {post : Int32 → SY → Prop} {v v' : SY} {r : Int32} (hs : s < 19999) (g : YG v r v') (J : YL post n r (nI (s + 1)) v') : YL post (n + 1) (-1) (nI s) v := by
  obtain ⟨g_types, g_methods, g_place, g_result, g_linked, g_bad, g_high, g_refs, g_active, g_ticks, g_code, b_above, b_ownField, b_mType, b_mName, b_mLength, b_bytes, b_starts, b_seen, b_done, b_heights, b_local, b_sure, b_objType, b_objField, b_marked, b_global, b_fMethod, b_fPc, b_fHigh, b_fLocal, b_fEntry⟩ := v
  obtain ⟨g_types1, g_methods1, g_place1, g_result1, g_linked1, g_bad1, g_high1, g_refs1, g_active1, g_ticks1, g_code1, b_above1, b_ownField1, b_mType1, b_mName1, b_mLength1, b_bytes1, b_starts1, b_seen1, b_done1, b_heights1, b_local1, b_sure1, b_objType1, b_objField1, b_marked1, b_global1, b_fMethod1, b_fPc1, b_fHigh1, b_fLocal1, b_fEntry1⟩ := v'
  show wY_invoke_108 post (n + 1) (-1) (nI s) g_types g_methods g_place g_result g_linked g_bad g_high g_refs g_active g_ticks g_code b_above b_ownField b_mType b_mName b_mLength b_bytes b_starts b_seen b_done b_heights b_local b_sure b_objType b_objField b_marked b_global b_fMethod b_fPc b_fHigh b_fLocal b_fEntry
  unfold wY_invoke_108
  refine br_f (nI_ge (b := 20000) (by omega) (by decide)) (br_f (by decide) (g _ ?_))
  exact nm_r (nI_1 s) J
theorem xl_end {r s : Nat} {post : Int32 → SX → Prop} {u : SX} {v : SY} (I : RE r u v) (hs : s < 999999) (J : XE post u) : XL post 1 (nI s) u := by
  obtain ⟨f_typeCount, f_methodCount, f_linked, f_faultPlace, f_flowHeight, f_active, f_ticksLeft, f_outcome, f_latestResult, a_typeAbove, a_fieldSet, a_methodType, a_methodName, a_codeLength, a_bytes, a_isStart, a_heightAt, a_kindsAt, a_isWaiting, a_flowKinds, a_globals, a_objectType, a_fieldValue, a_isMarked, a_frameMethod, a_frameAt, a_frameHeight, a_slots⟩ := u
  obtain ⟨g_types, g_methods, g_place, g_result, g_linked, g_bad, g_high, g_refs, g_active, g_ticks, g_code, b_above, b_ownField, b_mType, b_mName, b_mLength, b_bytes, b_starts, b_seen, b_done, b_heights, b_local, b_sure, b_objType, b_objField, b_marked, b_global, b_fMethod, b_fPc, b_fHigh, b_fLocal, b_fEntry⟩ := v
  obtain ⟨tc, mc, h, -, ho, hr⟩ := I
  show wX_invoke_109 post 1 (nI s) f_typeCount f_methodCount f_linked f_faultPlace f_flowHeight f_active f_ticksLeft f_outcome f_latestResult a_typeAbove a_fieldSet a_methodType a_methodName a_codeLength a_bytes a_isStart a_heightAt a_kindsAt a_isWaiting a_flowKinds a_globals a_objectType a_fieldValue a_isMarked a_frameMethod a_frameAt a_frameHeight a_slots
  unfold wX_invoke_109
  refine br_f (nI_ge (b := 1000000) (by omega) (by decide)) (br_f ?_ J)
  rw [ho, gm_m1 (by omega)]
  exact id
theorem yl_end {r s : Nat} {post : Int32 → SY → Prop} {v : SY} (hr : r ≤ 2) (hs : s < 19999) (J : YE post (nI r) v) : YL post 1 (nI r) (nI s) v := by
  obtain ⟨g_types, g_methods, g_place, g_result, g_linked, g_bad, g_high, g_refs, g_active, g_ticks, g_code, b_above, b_ownField, b_mType, b_mName, b_mLength, b_bytes, b_starts, b_seen, b_done, b_heights, b_local, b_sure, b_objType, b_objField, b_marked, b_global, b_fMethod, b_fPc, b_fHigh, b_fLocal, b_fEntry⟩ := v
  show wY_invoke_108 post 1 (nI r) (nI s) g_types g_methods g_place g_result g_linked g_bad g_high g_refs g_active g_ticks g_code b_above b_ownField b_mType b_mName b_mLength b_bytes b_starts b_seen b_done b_heights b_local b_sure b_objType b_objField b_marked b_global b_fMethod b_fPc b_fHigh b_fLocal b_fEntry
  unfold wY_invoke_108
  exact br_f (nI_ge (b := 20000) (by omega) (by decide)) (br_t (nI_pos' (by omega)) J)
theorem RE_r {r : Nat} {u : SX} {v : SY} (I : RE r u v) : r ≤ 2 := by
  obtain ⟨f_typeCount, f_methodCount, f_linked, f_faultPlace, f_flowHeight, f_active, f_ticksLeft, f_outcome, f_latestResult, a_typeAbove, a_fieldSet, a_methodType, a_methodName, a_codeLength, a_bytes, a_isStart, a_heightAt, a_kindsAt, a_isWaiting, a_flowKinds, a_globals, a_objectType, a_fieldValue, a_isMarked, a_frameMethod, a_frameAt, a_frameHeight, a_slots⟩ := u
  obtain ⟨g_types, g_methods, g_place, g_result, g_linked, g_bad, g_high, g_refs, g_active, g_ticks, g_code, b_above, b_ownField, b_mType, b_mName, b_mLength, b_bytes, b_starts, b_seen, b_done, b_heights, b_local, b_sure, b_objType, b_objField, b_marked, b_global, b_fMethod, b_fPc, b_fHigh, b_fLocal, b_fEntry⟩ := v
  obtain ⟨tc, mc, h, -, -, hr⟩ := I
  rcases hr with ⟨z, -⟩ | ⟨z, -⟩ | ⟨z, -⟩ <;> omega
theorem run_loop : ∀ μ, ∀ (u : SX) (v : SY), RS μ u v → ∃ r u' v', RE r u' v' ∧ (∀ post s, s + μ < 900000 → XE post u' → ∃ n, XL post n (nI s) u) ∧ (∀ post s, s + μ < 19000 → YE post (nI r) v' → ∃ n, YL post n (-1) (nI s) v) := by
  intro μ
  induction μ using Nat.strongRecOn with
  | ind μ ih =>
    intro u v I
    rcases run_step I with ⟨u1, v1, μ1, hμ, I1, gX, gY⟩ | ⟨u1, v1, r, E, gX, gY⟩
    · obtain ⟨r, u2, v2, E, kX, kY⟩ := ih μ1 hμ u1 v1 I1
      refine ⟨r, u2, v2, E, fun post s hs J => ?_, fun post s hs J => ?_⟩
      · obtain ⟨n, hn⟩ := kX post (s + 1) (by omega) J
        exact ⟨n + 1, xl_go I (by omega) gX hn⟩
      · obtain ⟨n, hn⟩ := kY post (s + 1) (by omega) J
        exact ⟨n + 1, yl_go (by omega) gY hn⟩
    · refine ⟨r, u1, v1, E, fun post s hs J => ⟨2, xl_go I (by omega) gX (xl_end E (by omega) J)⟩, fun post s hs J => ⟨2, yl_go (by omega) gY (yl_end (RE_r E) (by omega) J)⟩⟩
/-- the end of an invocation is related again -/
theorem RE_Rel {k r : Nat} {u' : SX} {v' : SY} (E : RE r u' v') : XE (fun rx ux => YE (fun ry vy => ry = rx ∧ i_Rel k ux vy) (nI r) v') u' := by
  obtain ⟨f_typeCount, f_methodCount, f_linked, f_faultPlace, f_flowHeight, f_active, f_ticksLeft, f_outcome, f_latestResult, a_typeAbove, a_fieldSet, a_methodType, a_methodName, a_codeLength, a_bytes, a_isStart, a_heightAt, a_kindsAt, a_isWaiting, a_flowKinds, a_globals, a_objectType, a_fieldValue, a_isMarked, a_frameMethod, a_frameAt, a_frameHeight, a_slots⟩ := u'
  obtain ⟨g_types, g_methods, g_place, g_result, g_linked, g_bad, g_high, g_refs, g_active, g_ticks, g_code, b_above, b_ownField, b_mType, b_mName, b_mLength, b_bytes, b_starts, b_seen, b_done, b_heights, b_local, b_sure, b_objType, b_objField, b_marked, b_global, b_fMethod, b_fPc, b_fHigh, b_fLocal, b_fEntry⟩ := v'
  obtain ⟨tc, mc, h, ⟨rfl, rfl, rfl, rfl, rfl, rfl, rfl, rfl, rfl, rfl, rfl, rfl, rfl, P, KB, LK, HH⟩, rfl, hr⟩ := E
  show wY_invoke_133 _ (nI r) _ _ _ _ _ _ _ _ _ _ _ _ _ _ _ _ _ _ _ _ _ _ _ _ _ _ _ _ _ _ _ _
  unfold wY_invoke_133 wY_invoke_147
  rcases hr with ⟨rfl, e⟩ | ⟨rfl, e⟩ | ⟨rfl, e⟩
  · subst e
    exact br_f (by decide) (br_f (by decide) ⟨rfl, tc, mc, h, rfl, rfl, rfl, rfl, rfl, Or.inr rfl, rfl, fun _ => rfl, rfl, rfl, rfl, rfl, rfl, rfl, rfl, P, KB, HH, fun _ => by decide, fun _ => LK⟩)
  · subst e
    exact br_t rfl (br_f (by decide) ⟨rfl, tc, mc, h, rfl, rfl, rfl, rfl, rfl, Or.inr rfl, rfl, fun _ => rfl, rfl, rfl, rfl, rfl, rfl, rfl, rfl, P, KB, HH, fun _ => by decide, fun _ => LK⟩)
  · subst e
    exact br_f (by decide) (br_t rfl ⟨rfl, tc, mc, h, rfl, rfl, rfl, rfl, rfl, Or.inr rfl, rfl, fun _ => rfl, rfl, rfl, rfl, rfl, rfl, rfl, rfl, P, KB, HH, fun _ => by decide, fun _ => LK⟩)
theorem i_vc_invoke {k : Nat} {u : SX} {v : SY} (I : i_Rel k u v) (hk : k + 4 ≤ 2048) (v1 : Int32) (v2 : Int32) (v3 : Int32) : wpX_invoke (fun r u' => wpY_invoke (fun r' v' => r' = r ∧ i_Rel (k + 4) u' v') v v1 v2 v3) u v1 v2 v3 := by
  obtain ⟨f_typeCount, f_methodCount, f_linked, f_faultPlace, f_flowHeight, f_active, f_ticksLeft, f_outcome, f_latestResult, a_typeAbove, a_fieldSet, a_methodType, a_methodName, a_codeLength, a_bytes, a_isStart, a_heightAt, a_kindsAt, a_isWaiting, a_flowKinds, a_globals, a_objectType, a_fieldValue, a_isMarked, a_frameMethod, a_frameAt, a_frameHeight, a_slots⟩ := u
  obtain ⟨g_types, g_methods, g_place, g_result, g_linked, g_bad, g_high, g_refs, g_active, g_ticks, g_code, b_above, b_ownField, b_mType, b_mName, b_mLength, b_bytes, b_starts, b_seen, b_done, b_heights, b_local, b_sure, b_objType, b_objField, b_marked, b_global, b_fMethod, b_fPc, b_fHigh, b_fLocal, b_fEntry⟩ := v
  have I' := I
  obtain ⟨tc, mc, h, rfl, rfl, rfl, rfl, rfl, hl, rfl, hfp, rfl, rfl, rfl, rfl, rfl, rfl, rfl, P, KB, H, hh, hL⟩ := I
  have h5 := P.1
  have h8 := P.2.1
  unfold wpX_invoke
  rcases hl with rfl | rfl
  · refine br_t rfl ?_
    unfold wpY_invoke
    exact br_t rfl ⟨rfl, I'⟩
  · have efp := hfp (by decide)
    subst efp
    have LK := hL (by decide)
    have nl : ¬ (1 : Int32) = 0 := by decide
    refine br_f nl ?_
    rcases gq_rng v1 (n := tc) (by omega) with z | z | ⟨ty, hty, rfl⟩
    · refine ev_isTypeF (nI mc) 1 (-1) f_flowHeight 0 f_ticksLeft f_outcome f_latestResult a_typeAbove a_fieldSet a_methodType a_methodName a_codeLength a_bytes a_isStart a_heightAt a_kindsAt a_isWaiting a_flowKinds a_globals a_objectType a_fieldValue a_isMarked a_frameMethod a_frameAt a_frameHeight a_slots (Or.inl z) (br_t rfl ?_)
      unfold wpY_invoke
      exact br_f nl (br_t z ⟨rfl, I'⟩)
    · refine ev_isTypeF (nI mc) 1 (-1) f_flowHeight 0 f_ticksLeft f_outcome f_latestResult a_typeAbove a_fieldSet a_methodType a_methodName a_codeLength a_bytes a_isStart a_heightAt a_kindsAt a_isWaiting a_flowKinds a_globals a_objectType a_fieldValue a_isMarked a_frameMethod a_frameAt a_frameHeight a_slots (Or.inr z) (br_t rfl ?_)
      unfold wpY_invoke
      exact br_f nl (br_f z.1 (br_t z.2 ⟨rfl, I'⟩))
    · have y1 : ¬ nI ty < 0 := nI_pos (by omega)
      have y2 : ¬ nI tc ≤ nI ty := nI_ge hty (by omega)
      refine ev_isType (nI mc) 1 (-1) f_flowHeight 0 f_ticksLeft f_outcome f_latestResult a_typeAbove a_fieldSet a_methodType a_methodName a_codeLength a_bytes a_isStart a_heightAt a_kindsAt a_isWaiting a_flowKinds a_globals a_objectType a_fieldValue a_isMarked a_frameMethod a_frameAt a_frameHeight a_slots hty h5 (br_f (by decide) ?_)
      rcases gq_rng v2 (n := 16) (by omega) with z | z | ⟨nm, hnm, rfl⟩
      · refine ev_isNameF (Or.inl z) (br_t rfl ?_)
        unfold wpY_invoke
        exact br_f nl (br_f y1 (br_f y2 (br_t z ⟨rfl, I'⟩)))
      · refine ev_isNameF (Or.inr z) (br_t rfl ?_)
        unfold wpY_invoke
        exact br_f nl (br_f y1 (br_f y2 (br_f z.1 (br_f (gq_nle (n := 15) (by omega) z.2) ⟨rfl, I'⟩))))
      · have y3 : ¬ nI nm < 0 := nI_pos (by omega)
        have y4 : nI nm ≤ 15 := nI_le (b := 15) (by omega) (by decide)
        refine ev_isName hnm (br_f (by decide) ?_)
        obtain ⟨q, kq, fX, fY⟩ := fm_find (nI tc) 1 (-1) f_flowHeight 0 f_ticksLeft f_outcome f_latestResult a_typeAbove a_fieldSet a_methodType a_methodName a_codeLength a_bytes a_isStart a_heightAt a_kindsAt a_isWaiting a_flowKinds a_globals a_objectType a_fieldValue a_isMarked a_frameMethod a_frameAt a_frameHeight a_slots (nI tc) (-1) f_latestResult 1 g_bad g_high g_refs g_active g_ticks g_code b_ownField a_codeLength a_bytes b_starts b_seen b_done b_heights b_local b_sure b_objType b_objField b_marked b_global b_fMethod b_fPc b_fHigh b_fLocal b_fEntry (y := nI nm) P hty
        refine fX _ ?_
        cases q with
        | none =>
          refine br_t rfl ?_
          unfold wpY_invoke
          exact br_f nl (br_f y1 (br_f y2 (br_f y3 (br_t y4 (fY _ (br_f (by decide) ⟨rfl, I'⟩))))))
        | some m =>
          obtain ⟨hm, en⟩ := kq m rfl
          refine br_f (of_eq_false (gm_m1 (by omega))) ?_
          have RT : RtOK 0 (fun _ _ => 0) a_kindsAt b_sure a_frameMethod a_frameAt a_frameHeight a_slots b_fMethod b_fPc b_fHigh b_fLocal b_fEntry := fun f z => absurd z (by omega)
          rcases al_both (nI tc) (nI mc) 1 (-1) f_flowHeight 100 (-1) f_latestResult a_typeAbove a_fieldSet a_methodType a_methodName a_codeLength a_bytes a_isStart a_heightAt a_kindsAt a_isWaiting a_flowKinds a_globals a_objectType a_fieldValue a_isMarked a_frameMethod a_frameAt a_frameHeight a_slots (nI tc) (nI mc) (-1) f_latestResult 1 g_bad g_high g_refs g_active g_ticks g_code a_typeAbove b_ownField a_methodType a_methodName a_codeLength a_bytes b_starts b_seen b_done b_heights b_local b_sure b_objType b_objField b_marked b_global b_fMethod b_fPc b_fHigh b_fLocal b_fEntry (n := 0) P H (by omega) RT (fun _ _ => by omega) hty with ⟨xm, ym, kX, kY⟩ | ⟨xm, ym, l, h', ot, fv, yt, yf, l10, hh', lh', H', eot, kX, kY⟩
          · refine kX _ (br_t rfl ⟨1, ?_⟩)
            unfold wX_invoke_109
            refine br_f (by decide) (br_f (by decide) ?_)
            unfold wpY_invoke
            refine br_f nl (br_f y1 (br_f y2 (br_f y3 (br_t y4 (fY _ (br_t (nI_pos' (by omega)) (kY _ (br_f (by decide) ?_))))))))
            exact ⟨rfl, tc, mc, h, rfl, rfl, rfl, rfl, rfl, Or.inr rfl, rfl, fun _ => rfl, rfl, rfl, rfl, rfl, rfl, rfl, rfl, P, KB, H, fun _ => by decide, fun _ => LK⟩
          · have enm : gm_n (a_methodName m) = nm := by rw [en, gp_nI (by omega)]
            -- both runs from the first frame
            have main : ∀ ax ay : Int32, VRm h' (is_ak nm) ax ay → ∃ r u' v', RE r u' v' ∧ (∀ post, XE post u' → ∃ n, wX_invoke_109 post n 0 (nI tc) (nI mc) 1 (-1) f_flowHeight (nI (0 + 1)) 100 (-1) f_latestResult a_typeAbove a_fieldSet a_methodType a_methodName a_codeLength a_bytes a_isStart a_heightAt a_kindsAt a_isWaiting a_flowKinds a_globals ot fv xm (upd a_frameMethod 0 (nI m)) (upd a_frameAt 0 0) (upd a_frameHeight 0 0) (upd (upd a_slots (0 * 9) (nI (l + 1))) (0 * 9 + 1) ax)) ∧ (∀ post, YE post (nI r) v' → ∃ n, wY_invoke_108 post n (-1) 0 (nI tc) (nI mc) (-1) f_latestResult 1 g_bad g_high g_refs (nI (0 + 1)) 100 0 a_typeAbove b_ownField a_methodType a_methodName a_codeLength a_bytes b_starts b_seen b_done b_heights b_local b_sure yt yf ym b_global (upd b_fMethod 0 (nI m)) (upd b_fPc 0 0) (upd b_fHigh 0 0) (upd (upd b_fLocal (0 * 4) (nI l)) (0 * 4 + 1) ay) b_fEntry) := by
              intro ax ay hv
              obtain ⟨nH, nF⟩ := F1_new (h := h') (f := 0) (r := l + 1) (fm := a_frameMethod) (fa := a_frameAt) (fh := a_frameHeight) (sl := a_slots) (ym := b_fMethod) (yp := b_fPc) (yh := b_fHigh) (yl := b_fLocal) (ye := b_fEntry) h8 LK KB hm (by omega) (by rw [enm]; exact hv)
              rw [yR_s] at nF
              obtain ⟨r, u', v', E, gX, gY⟩ := run_loop 6433 (nI tc, nI mc, 1, -1, f_flowHeight, nI (0 + 1), 100, -1, f_latestResult, a_typeAbove, a_fieldSet, a_methodType, a_methodName, a_codeLength, a_bytes, a_isStart, a_heightAt, a_kindsAt, a_isWaiting, a_flowKinds, a_globals, ot, fv, xm, upd a_frameMethod 0 (nI m), upd a_frameAt 0 0, upd a_frameHeight 0 0, upd (upd a_slots (0 * 9) (nI (l + 1))) (0 * 9 + 1) ax) (nI tc, nI mc, -1, f_latestResult, 1, g_bad, g_high, g_refs, nI (0 + 1), 100, 0, a_typeAbove, b_ownField, a_methodType, a_methodName, a_codeLength, a_bytes, b_starts, b_seen, b_done, b_heights, b_local, b_sure, yt, yf, ym, b_global, upd b_fMethod 0 (nI m), upd b_fPc 0 0, upd b_fHigh 0 0, upd (upd b_fLocal (0 * 4) (nI l)) (0 * 4 + 1) ay, b_fEntry) ⟨tc, mc, h', 1, 100, (fun _ => m), (fun _ => 0), (fun _ => 0), ⟨rfl, rfl, rfl, rfl, rfl, rfl, rfl, rfl, rfl, rfl, rfl, rfl, rfl, P, KB, LK, H'⟩, rfl, rfl, by omega, by omega, rfl, rfl, by omega, rfl, ⟨fun i hi => by (have e : i = 0 := by omega); subst e; exact nF, fun i hi => absurd hi (by omega), fun i hi => nH⟩, rfl⟩
              exact ⟨r, u', v', E, fun post J => gX post 0 (by omega) J, fun post J => gY post 0 (by omega) J⟩
            have fin : ∀ ax ay : Int32, VRm h' (is_ak nm) ax ay → (∀ post : Int32 → SX → Prop, (∃ n, wX_invoke_109 post n 0 (nI tc) (nI mc) 1 (-1) f_flowHeight (nI (0 + 1)) 100 (-1) f_latestResult a_typeAbove a_fieldSet a_methodType a_methodName a_codeLength a_bytes a_isStart a_heightAt a_kindsAt a_isWaiting a_flowKinds a_globals ot fv xm (upd a_frameMethod 0 (nI m)) (upd a_frameAt 0 0) (upd a_frameHeight 0 0) (upd (upd a_slots (0 * 9) (nI (l + 1))) (0 * 9 + 1) ax)) → wX_invoke_103 post ax (nI (l + 1)) (nI m) (nI tc) (nI mc) 1 (-1) f_flowHeight 0 100 (-1) f_latestResult a_typeAbove a_fieldSet a_methodType a_methodName a_codeLength a_bytes a_isStart a_heightAt a_kindsAt a_isWaiting a_flowKinds a_globals ot fv xm a_frameMethod a_frameAt a_frameHeight a_slots) := by
              intro ax ay hv post J
              unfold wX_invoke_103
              exact ex_enter (nI tc) (nI mc) 1 (-1) f_flowHeight 100 (-1) f_latestResult a_typeAbove a_fieldSet a_methodType a_methodName a_codeLength a_bytes a_isStart a_heightAt a_kindsAt a_isWaiting a_flowKinds a_globals ot fv xm a_frameMethod a_frameAt a_frameHeight a_slots (f := 0) (by omega) J
            have finY : ∀ ay : Int32, (∀ post : Int32 → SY → Prop, (∃ n, wY_invoke_108 post n (-1) 0 (nI tc) (nI mc) (-1) f_latestResult 1 g_bad g_high g_refs (nI (0 + 1)) 100 0 a_typeAbove b_ownField a_methodType a_methodName a_codeLength a_bytes b_starts b_seen b_done b_heights b_local b_sure yt yf ym b_global (upd b_fMethod 0 (nI m)) (upd b_fPc 0 0) (upd b_fHigh 0 0) (upd (upd b_fLocal (0 * 4) (nI l)) (0 * 4 + 1) ay) b_fEntry) → wY_invoke_99 post ay (nI l) (nI m) (nI tc) (nI mc) (-1) f_latestResult 1 g_bad g_high g_refs 0 100 0 a_typeAbove b_ownField a_methodType a_methodName a_codeLength a_bytes b_starts b_seen b_done b_heights b_local b_sure yt yf ym b_global b_fMethod b_fPc b_fHigh b_fLocal b_fEntry) := by
              intro ay post J
              unfold wY_invoke_99
              exact ey_start (nI tc) (nI mc) (-1) f_latestResult 1 g_bad g_high g_refs 100 0 a_typeAbove b_ownField a_methodType a_methodName a_codeLength a_bytes b_starts b_seen b_done b_heights b_local b_sure yt yf ym b_global b_fMethod b_fPc b_fHigh b_fLocal b_fEntry (f := 0) (by omega) J
            have h4 := gk_and4 nm (by omega)
            refine kX _ (br_f (nI_ne0 (by omega) (by omega)) (ev_ak (by omega) ?_))
            unfold wX_invoke_86
            have hY : ∀ post : Int32 → SY → Prop, ((nm / 4 % 2 = 0 → wY_invoke_99 post v3 (nI l) (nI m) (nI tc) (nI mc) (-1) f_latestResult 1 g_bad g_high g_refs 0 100 0 a_typeAbove b_ownField a_methodType a_methodName a_codeLength a_bytes b_starts b_seen b_done b_heights b_local b_sure yt yf ym b_global b_fMethod b_fPc b_fHigh b_fLocal b_fEntry) ∧ (¬ nm / 4 % 2 = 0 → wY_invoke_99 post (-1) (nI l) (nI m) (nI tc) (nI mc) (-1) f_latestResult 1 g_bad g_high g_refs 0 100 0 a_typeAbove b_ownField a_methodType a_methodName a_codeLength a_bytes b_starts b_seen b_done b_heights b_local b_sure yt yf ym b_global b_fMethod b_fPc b_fHigh b_fLocal b_fEntry)) → wpY_invoke post (nI tc, nI mc, -1, f_latestResult, 1, g_bad, g_high, g_refs, g_active, g_ticks, g_code, a_typeAbove, b_ownField, a_methodType, a_methodName, a_codeLength, a_bytes, b_starts, b_seen, b_done, b_heights, b_local, b_sure, b_objType, b_objField, b_marked, b_global, b_fMethod, b_fPc, b_fHigh, b_fLocal, b_fEntry) (nI ty) (nI nm) v3 := by
              intro post J
              unfold wpY_invoke
              refine br_f nl (br_f y1 (br_f y2 (br_f y3 (br_t y4 (fY _ (br_t (nI_pos' (by omega)) (kY _ (br_t (nI_pos' (by omega)) ?_))))))))
              exact ⟨fun z => J.1 (h4.mp z), fun z => J.2 (fun w => z (h4.mpr w))⟩
            unfold is_ak
            by_cases e : nm / 4 % 2 = 0
            · rw [if_pos e]
              have hv : VRm h' (is_ak nm) v3 v3 := by unfold is_ak; rw [if_pos e]; exact v_i
              obtain ⟨r, u', v', E, gX, gY⟩ := main v3 v3 hv
              refine br_f (by decide) (br_t rfl (fin v3 v3 hv _ (gX _ ?_)))
              have R := RE_Rel (k := k + 4) E
              obtain ⟨f_typeCount1, f_methodCount1, f_linked1, f_faultPlace1, f_flowHeight1, f_active1, f_ticksLeft1, f_outcome1, f_latestResult1, a_typeAbove1, a_fieldSet1, a_methodType1, a_methodName1, a_codeLength1, a_bytes1, a_isStart1, a_heightAt1, a_kindsAt1, a_isWaiting1, a_flowKinds1, a_globals1, a_objectType1, a_fieldValue1, a_isMarked1, a_frameMethod1, a_frameAt1, a_frameHeight1, a_slots1⟩ := u'
              exact hY _ ⟨fun _ => finY v3 _ (gY _ R), fun z => absurd e z⟩
            · rw [if_neg e]
              have hv : VRm h' (is_ak nm) 0 (-1) := by unfold is_ak; rw [if_neg e]; exact ⟨fun _ => ⟨0, by omega, rfl, yR_0.symm⟩, fun z => absurd z (by decide)⟩
              obtain ⟨r, u', v', E, gX, gY⟩ := main 0 (-1) hv
              refine br_t rfl (br_f (by decide) (fin 0 (-1) hv _ (gX _ ?_)))
              have R := RE_Rel (k := k + 4) E
              obtain ⟨f_typeCount1, f_methodCount1, f_linked1, f_faultPlace1, f_flowHeight1, f_active1, f_ticksLeft1, f_outcome1, f_latestResult1, a_typeAbove1, a_fieldSet1, a_methodType1, a_methodName1, a_codeLength1, a_bytes1, a_isStart1, a_heightAt1, a_kindsAt1, a_isWaiting1, a_flowKinds1, a_globals1, a_objectType1, a_fieldValue1, a_isMarked1, a_frameMethod1, a_frameAt1, a_frameHeight1, a_slots1⟩ := u'
              exact hY _ ⟨fun z => absurd z e, fun _ => finY (-1) _ (gY _ R)⟩
