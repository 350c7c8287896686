theorem ex_leave0 (f_typeCount f_methodCount f_linked f_faultPlace f_flowHeight f_ticksLeft f_outcome f_latestResult : Int32) (a_typeAbove a_fieldSet a_methodType a_methodName a_codeLength a_bytes a_isStart a_heightAt a_kindsAt a_isWaiting a_flowKinds a_globals a_objectType a_fieldValue a_isMarked a_frameMethod a_frameAt a_frameHeight a_slots : Nat → Int32) {post : SX → Prop} {h m nm : Nat} {told : Int32} (hh : a_frameHeight 0 = nI h) (h1 : 1 ≤ h) (h5 : h ≤ 5) (em : a_frameMethod 0 = nI m) (hm : m < 8) (en : a_methodName m = nI nm) (hn : nm < 16) (ht : (nm < 8 → told = a_slots (0 * 9 + 4 + (h - 1))) ∧ (8 ≤ nm → (a_slots (0 * 9 + 4 + (h - 1)) = nI 0 ∧ told = -1) ∨ ∃ o, o < 10 ∧ a_slots (0 * 9 + 4 + (h - 1)) = nI (o + 1) ∧ told = a_objectType (o + 1)))
    (J : post (f_typeCount, f_methodCount, f_linked, f_faultPlace, f_flowHeight, nI 0, f_ticksLeft, 0, told, a_typeAbove, a_fieldSet, a_methodType, a_methodName, a_codeLength, a_bytes, a_isStart, a_heightAt, a_kindsAt, a_isWaiting, a_flowKinds, a_globals, a_objectType, a_fieldValue, a_isMarked, a_frameMethod, a_frameAt, upd a_frameHeight 0 (nI (h - 1)), a_slots)) : wpX_leaveMethod post (f_typeCount, f_methodCount, f_linked, f_faultPlace, f_flowHeight, nI 1, f_ticksLeft, f_outcome, f_latestResult, a_typeAbove, a_fieldSet, a_methodType, a_methodName, a_codeLength, a_bytes, a_isStart, a_heightAt, a_kindsAt, a_isWaiting, a_flowKinds, a_globals, a_objectType, a_fieldValue, a_isMarked, a_frameMethod, a_frameAt, a_frameHeight, a_slots) (nI 0) := by
  unfold wpX_leaveMethod
  refine ex_pop f_typeCount f_methodCount f_linked f_faultPlace f_flowHeight (nI 1) f_ticksLeft f_outcome f_latestResult a_typeAbove a_fieldSet a_methodType a_methodName a_codeLength a_bytes a_isStart a_heightAt a_kindsAt a_isWaiting a_flowKinds a_globals a_objectType a_fieldValue a_isMarked a_frameMethod a_frameAt a_frameHeight a_slots (by omega) hh h1 h5 (nm_r (nI_pred 0) (br_t (by decide) ⟨vp_in_nI (by omega) (by omega), ?_⟩))
  rw [nI_clamp (by omega), em, nI_clamp (by omega), en]
  refine ⟨vp_in_nI hm (by omega), ev_vk (by omega) ?_⟩
  unfold is_vk wX_leaveMethod_67 wX_leaveMethod_81
  by_cases h8 : nm < 8
  · rw [if_pos h8]
    refine br_f (by decide) (br_t rfl ?_)
    rw [← ht.1 h8]
    exact J
  · rw [if_neg h8]
    refine br_t rfl (br_f (by decide) ?_)
    rcases ht.2 (by omega) with ⟨e1, e2⟩ | ⟨o, ho, e1, e2⟩
    · rw [e1]
      refine ev_toN0 f_typeCount f_methodCount f_linked f_faultPlace f_flowHeight (nI 0) f_ticksLeft f_outcome f_latestResult a_typeAbove a_fieldSet a_methodType a_methodName a_codeLength a_bytes a_isStart a_heightAt a_kindsAt a_isWaiting a_flowKinds a_globals a_objectType a_fieldValue a_isMarked a_frameMethod a_frameAt (upd a_frameHeight 0 (nI (h - 1))) a_slots ?_
      rw [← e2]
      exact J
    · rw [e1]
      refine ev_toN f_typeCount f_methodCount f_linked f_faultPlace f_flowHeight (nI 0) f_ticksLeft f_outcome f_latestResult a_typeAbove a_fieldSet a_methodType a_methodName a_codeLength a_bytes a_isStart a_heightAt a_kindsAt a_isWaiting a_flowKinds a_globals a_objectType a_fieldValue a_isMarked a_frameMethod a_frameAt (upd a_frameHeight 0 (nI (h - 1))) a_slots ho ?_
      rw [← e2]
      exact J
theorem ex_leave1 (f_typeCount f_methodCount f_linked f_faultPlace f_flowHeight f_ticksLeft f_outcome f_latestResult : Int32) (a_typeAbove a_fieldSet a_methodType a_methodName a_codeLength a_bytes a_isStart a_heightAt a_kindsAt a_isWaiting a_flowKinds a_globals a_objectType a_fieldValue a_isMarked a_frameMethod a_frameAt a_frameHeight a_slots : Nat → Int32) {post : SX → Prop} {g h hg pg : Nat} (hf : g + 1 < 6) (hh : a_frameHeight (g + 1) = nI h) (h1 : 1 ≤ h) (h5 : h ≤ 5) (eg : a_frameHeight g = nI hg) (hg5 : hg < 5) (ep : a_frameAt g = nI pg) (hp : pg < 32)
    (J : post (f_typeCount, f_methodCount, f_linked, f_faultPlace, f_flowHeight, nI (g + 1), f_ticksLeft, f_outcome, f_latestResult, a_typeAbove, a_fieldSet, a_methodType, a_methodName, a_codeLength, a_bytes, a_isStart, a_heightAt, a_kindsAt, a_isWaiting, a_flowKinds, a_globals, a_objectType, a_fieldValue, a_isMarked, a_frameMethod, upd a_frameAt g (nI (pg + 2)), upd (upd a_frameHeight (g + 1) (nI (h - 1))) g (nI (hg + 1)), upd a_slots (g * 9 + 4 + hg) (a_slots ((g + 1) * 9 + 4 + (h - 1))))) : wpX_leaveMethod post (f_typeCount, f_methodCount, f_linked, f_faultPlace, f_flowHeight, nI (g + 1 + 1), f_ticksLeft, f_outcome, f_latestResult, a_typeAbove, a_fieldSet, a_methodType, a_methodName, a_codeLength, a_bytes, a_isStart, a_heightAt, a_kindsAt, a_isWaiting, a_flowKinds, a_globals, a_objectType, a_fieldValue, a_isMarked, a_frameMethod, a_frameAt, a_frameHeight, a_slots) (nI (g + 1)) := by
  unfold wpX_leaveMethod
  refine ex_pop f_typeCount f_methodCount f_linked f_faultPlace f_flowHeight (nI (g + 1 + 1)) f_ticksLeft f_outcome f_latestResult a_typeAbove a_fieldSet a_methodType a_methodName a_codeLength a_bytes a_isStart a_heightAt a_kindsAt a_isWaiting a_flowKinds a_globals a_objectType a_fieldValue a_isMarked a_frameMethod a_frameAt a_frameHeight a_slots hf hh h1 h5 (nm_r (nI_pred (g + 1)) (br_f (nI_nle (by omega) (by omega)) ?_))
  rw [nI_pred]
  refine ex_push f_typeCount f_methodCount f_linked f_faultPlace f_flowHeight (nI (g + 1)) f_ticksLeft f_outcome f_latestResult a_typeAbove a_fieldSet a_methodType a_methodName a_codeLength a_bytes a_isStart a_heightAt a_kindsAt a_isWaiting a_flowKinds a_globals a_objectType a_fieldValue a_isMarked a_frameMethod a_frameAt (upd a_frameHeight (g + 1) (nI (h - 1))) a_slots (by omega) (by rw [pk_un (by omega)]; exact eg) hg5 ⟨vp_in_nI (by omega) (by omega), vp_in_nI (by omega) (by omega), ?_⟩
  rw [nI_clamp (by omega), ep]
  refine nm_r ?_ J
  rw [show nI pg + 2 = nI (pg + 2) from nI_add pg 2]
theorem ey_back0 (g_types g_methods g_place g_result g_linked g_bad g_high g_refs g_ticks g_code : Int32) (b_above b_ownField b_mType b_mName b_mLength b_bytes b_starts : Nat → Int32) (b_seen b_done : Nat → Int64) (b_heights b_local b_sure b_objType b_objField b_marked b_global b_fMethod b_fPc b_fHigh b_fLocal b_fEntry : Nat → Int32) {post : Int32 → SY → Prop} {m nm : Nat} {told v : Int32} (em : b_fMethod 0 = nI m) (hm : m < 8) (en : b_mName m = nI nm) (hn : nm < 16) (ht : (nm < 8 → told = v) ∧ (8 ≤ nm → (v = yR 0 ∧ told = -1) ∨ ∃ o, o < 10 ∧ v = yR (o + 1) ∧ told = b_objType o))
    (J : post 0 (g_types, g_methods, g_place, told, g_linked, g_bad, g_high, g_refs, nI 0, g_ticks, g_code, b_above, b_ownField, b_mType, b_mName, b_mLength, b_bytes, b_starts, b_seen, b_done, b_heights, b_local, b_sure, b_objType, b_objField, b_marked, b_global, b_fMethod, b_fPc, b_fHigh, b_fLocal, b_fEntry)) : wpY_giveBack post (g_types, g_methods, g_place, g_result, g_linked, g_bad, g_high, g_refs, nI 1, g_ticks, g_code, b_above, b_ownField, b_mType, b_mName, b_mLength, b_bytes, b_starts, b_seen, b_done, b_heights, b_local, b_sure, b_objType, b_objField, b_marked, b_global, b_fMethod, b_fPc, b_fHigh, b_fLocal, b_fEntry) v := by
  unfold wpY_giveBack
  dsimp only
  rw [show nI 1 - 1 = nI 0 from nI_pred 0]
  refine ⟨vp_in_nI (by omega) (by omega), nm_r (by rw [nI_clamp (by omega)]; exact em) (nm_e (br_t rfl ⟨vp_in_nI hm (by omega), ?_⟩))⟩
  rw [nI_clamp (by omega), en]
  refine pk_le 8 nm (fun h8 => ?_) (fun h8 => ?_)
  · rcases ht.2 h8 with ⟨e1, e2⟩ | ⟨o, ho, e1, e2⟩
    · rw [e1, yR_0]
      refine br_f (by decide) ?_
      rw [← e2]
      exact J
    · rw [e1, yR_s]
      refine br_t (nI_pos' (by omega)) ⟨vp_in_nI ho (by omega), nm_r (by rw [nI_clamp (by omega)]; exact e2.symm) J⟩
  · rw [← ht.1 h8]
    exact J
theorem ey_back1 (g_types g_methods g_place g_result g_linked g_bad g_high g_refs g_ticks g_code : Int32) (b_above b_ownField b_mType b_mName b_mLength b_bytes b_starts : Nat → Int32) (b_seen b_done : Nat → Int64) (b_heights b_local b_sure b_objType b_objField b_marked b_global b_fMethod b_fPc b_fHigh b_fLocal b_fEntry : Nat → Int32) {post : Int32 → SY → Prop} {g hg pg : Nat} {v : Int32} (hf : g + 1 < 6) (eg : b_fHigh g = nI hg) (hg5 : hg < 5) (ep : b_fPc g = nI pg) (hp : pg < 32) (J : post (-1) (g_types, g_methods, g_place, g_result, g_linked, g_bad, g_high, g_refs, nI (g + 1), g_ticks, g_code, b_above, b_ownField, b_mType, b_mName, b_mLength, b_bytes, b_starts, b_seen, b_done, b_heights, b_local, b_sure, b_objType, b_objField, b_marked, b_global, b_fMethod, upd b_fPc g (nI (pg + 2)), upd b_fHigh g (nI (hg + 1)), b_fLocal, upd b_fEntry (g * 6 + hg) v)) : wpY_giveBack post (g_types, g_methods, g_place, g_result, g_linked, g_bad, g_high, g_refs, nI (g + 1 + 1), g_ticks, g_code, b_above, b_ownField, b_mType, b_mName, b_mLength, b_bytes, b_starts, b_seen, b_done, b_heights, b_local, b_sure, b_objType, b_objField, b_marked, b_global, b_fMethod, b_fPc, b_fHigh, b_fLocal, b_fEntry) v := by
  unfold wpY_giveBack
  simp (disch := omega) only [nI_clamp, gm_clL, gm_in, gm_inL, gm_ml, gm_al, gm_la, gm_sl, nI_add, pk_mul, gm_eqL, gm_leL, gm_ltL, gm_Lle, gm_Llt, gm_eq, gm_le, gm_lt, gm_m1, forall_eq, true_and, Nat.not_lt_zero, Nat.add_sub_cancel, gm_z2, gm_z3, gm_z9, gm_z16, gm_z18, gm_z32, gm_z36, gm_z64, gm_z1152, not_true_eq_false, not_false_eq_true, false_implies, true_implies, and_true, implies_true, eg, ep]
  exact ⟨fun z => absurd z (by omega), fun _ => J⟩
theorem op_18 (f_flowHeight f_latestResult : Int32) (a_typeAbove a_fieldSet a_methodType a_methodName a_codeLength a_bytes a_isStart a_heightAt a_kindsAt a_isWaiting a_flowKinds a_globals a_objectType a_fieldValue a_isMarked a_frameMethod a_frameAt a_frameHeight a_slots : Nat → Int32) (g_result g_bad g_high g_refs g_code : Int32) (b_ownField b_starts : Nat → Int32) (b_seen b_done : Nat → Int64) (b_heights b_local b_sure b_objType b_objField b_marked b_global b_fMethod b_fPc b_fHigh b_fLocal b_fEntry : Nat → Int32) {tc mc h f t m p hc o b nm : Nat} {mF pF hF : Nat → Nat} (C : CT tc mc h f t m p hc o b nm a_typeAbove a_fieldSet b_ownField a_methodName a_codeLength a_bytes a_heightAt a_kindsAt b_sure a_globals a_objectType a_fieldValue b_global b_objType b_objField a_frameMethod a_frameAt a_frameHeight a_slots b_fMethod b_fPc b_fHigh b_fLocal b_fEntry mF pF hF) (eo : o = 18) : SO (64 * t + sp pF (f + 1)) (nI tc, nI mc, 1, -1, f_flowHeight, nI (f + 1), nI t, -1, f_latestResult, a_typeAbove, a_fieldSet, a_methodType, a_methodName, a_codeLength, a_bytes, a_isStart, a_heightAt, a_kindsAt, a_isWaiting, a_flowKinds, a_globals, a_objectType, a_fieldValue, a_isMarked, a_frameMethod, a_frameAt, a_frameHeight, a_slots) (nI tc, nI mc, -1, g_result, 1, g_bad, g_high, g_refs, nI (f + 1), nI t, g_code, a_typeAbove, b_ownField, a_methodType, a_methodName, a_codeLength, a_bytes, b_starts, b_seen, b_done, b_heights, b_local, b_sure, b_objType, b_objField, b_marked, b_global, b_fMethod, b_fPc, b_fHigh, b_fLocal, b_fEntry) := by
  obtain ⟨q1, q2, q3, q4, q5, q6, q7, q8, q9, q10, q11, q12, q13, q14, q15, q16, q17, q18, q19, q20, q21, q22, q23, q24⟩ := ct_F C
  have f6 := C.2.2.2.2.1
  have HH := C.2.2.2.1
  subst eo
  have x1 : 1 ≤ hc := q21.1
  have h10 := HH.1
  have hvk : VRm h (is_vk nm) (a_slots (f * 9 + 4 + (hc - 1))) (b_fEntry (f * 6 + (hc - 1))) := VRm_sub (q22 _ (by omega)).2 (q22 _ (by omega)).1 (q21.2.1 (by decide)) (top_v q23 x1)
  cases f with
  | zero =>
    have tk : ∃ told : Int32, ((nm < 8 → told = a_slots (0 * 9 + 4 + (hc - 1))) ∧ (8 ≤ nm → (a_slots (0 * 9 + 4 + (hc - 1)) = nI 0 ∧ told = -1) ∨ ∃ o, o < 10 ∧ a_slots (0 * 9 + 4 + (hc - 1)) = nI (o + 1) ∧ told = a_objectType (o + 1))) ∧ ((nm < 8 → told = b_fEntry (0 * 6 + (hc - 1))) ∧ (8 ≤ nm → (b_fEntry (0 * 6 + (hc - 1)) = yR 0 ∧ told = -1) ∨ ∃ o, o < 10 ∧ b_fEntry (0 * 6 + (hc - 1)) = yR (o + 1) ∧ told = b_objType o)) := by
      unfold is_vk at hvk
      by_cases h8 : nm < 8
      · rw [if_pos h8] at hvk
        exact ⟨_, ⟨fun _ => rfl, fun z => absurd z (by omega)⟩, ⟨fun _ => hvk.2 rfl, fun z => absurd z (by omega)⟩⟩
      · rw [if_neg h8] at hvk
        obtain ⟨r, hr, e1, e2⟩ := hvk.1 rfl
        cases r with
        | zero => exact ⟨-1, ⟨fun z => absurd z h8, fun _ => Or.inl ⟨e1, rfl⟩⟩, ⟨fun z => absurd z h8, fun _ => Or.inl ⟨e2, rfl⟩⟩⟩
        | succ ob =>
          obtain ⟨ty, hty, t1, t2, -⟩ := HH.2.2 ob (by omega)
          exact ⟨nI ty, ⟨fun z => absurd z h8, fun _ => Or.inr ⟨ob, by omega, e1, t1.symm⟩⟩, ⟨fun z => absurd z h8, fun _ => Or.inr ⟨ob, by omega, e2, t2.symm⟩⟩⟩
    obtain ⟨told, k1, k2⟩ := tk
    refine so_end (f := 0) f_flowHeight f_latestResult a_typeAbove a_fieldSet a_methodType a_methodName a_codeLength a_bytes a_isStart a_heightAt a_kindsAt a_isWaiting a_flowKinds a_globals a_objectType a_fieldValue a_isMarked a_frameMethod a_frameAt a_frameHeight a_slots g_result g_bad g_high g_refs g_code b_ownField b_starts b_seen b_done b_heights b_local b_sure b_objType b_objField b_marked b_global b_fMethod b_fPc b_fHigh b_fLocal b_fEntry (h' := h) (r := 0) (u' := (nI tc, nI mc, 1, -1, f_flowHeight, nI 0, nI t, 0, told, a_typeAbove, a_fieldSet, a_methodType, a_methodName, a_codeLength, a_bytes, a_isStart, a_heightAt, a_kindsAt, a_isWaiting, a_flowKinds, a_globals, a_objectType, a_fieldValue, a_isMarked, a_frameMethod, a_frameAt, upd a_frameHeight 0 (nI (hc - 1)), a_slots)) (v' := (nI tc, nI mc, -1, told, 1, g_bad, g_high, g_refs, nI 0, nI t, g_code, a_typeAbove, b_ownField, a_methodType, a_methodName, a_codeLength, a_bytes, b_starts, b_seen, b_done, b_heights, b_local, b_sure, b_objType, b_objField, b_marked, b_global, b_fMethod, b_fPc, b_fHigh, b_fLocal, b_fEntry)) C ⟨tc, mc, h, ⟨rfl, rfl, rfl, rfl, rfl, rfl, rfl, rfl, rfl, rfl, rfl, rfl, rfl, C.1, C.2.1, C.2.2.1, HH⟩, rfl, Or.inl ⟨rfl, rfl⟩⟩ (fun post J => x_pre f_flowHeight f_latestResult a_typeAbove a_fieldSet a_methodType a_methodName a_codeLength a_bytes a_isStart a_heightAt a_kindsAt a_isWaiting a_flowKinds a_globals a_objectType a_fieldValue a_isMarked a_frameMethod a_frameAt a_frameHeight a_slots g_result g_bad g_high g_refs g_code b_ownField b_starts b_seen b_done b_heights b_local b_sure b_objType b_objField b_marked b_global b_fMethod b_fPc b_fHigh b_fLocal b_fEntry C ?_) (fun post J => y_pre f_flowHeight f_latestResult a_typeAbove a_fieldSet a_methodType a_methodName a_codeLength a_bytes a_isStart a_heightAt a_kindsAt a_isWaiting a_flowKinds a_globals a_objectType a_fieldValue a_isMarked a_frameMethod a_frameAt a_frameHeight a_slots g_result g_bad g_high g_refs g_code b_ownField b_starts b_seen b_done b_heights b_local b_sure b_objType b_objField b_marked b_global b_fMethod b_fPc b_fHigh b_fLocal b_fEntry C (fun b1 hb1 hb2 => ?_))
    · exact br_f (by decide) (br_f (by decide) (br_f (by decide) (br_f (by decide) (br_f (by decide) (br_f (by decide) (br_f (by decide) (br_f (by decide) (br_f (by decide) (br_f (by decide) (br_t (by decide) (ex_leave0 (nI tc) (nI mc) 1 (-1) f_flowHeight (nI t) (-1) f_latestResult a_typeAbove a_fieldSet a_methodType a_methodName a_codeLength a_bytes a_isStart a_heightAt a_kindsAt a_isWaiting a_flowKinds a_globals a_objectType a_fieldValue a_isMarked a_frameMethod a_frameAt a_frameHeight a_slots q18 x1 q5 q14 (by omega) q9 q8 k1 J)))))))))))
    · rw [if_pos x1]
      exact br_t (by decide) (ey_back0 (nI tc) (nI mc) (-1) g_result 1 g_bad g_high g_refs (nI t) g_code a_typeAbove b_ownField a_methodType a_methodName a_codeLength a_bytes b_starts b_seen b_done b_heights b_local b_sure b_objType b_objField b_marked b_global b_fMethod b_fPc b_fHigh b_fLocal b_fEntry q15 (by omega) q9 q8 k2 J)
  | succ g =>
    obtain ⟨P, KB, LK, -, -, t100, R, eM, eP, eHc, eo, eb, enm⟩ := C
    have C' : CT tc mc h (g + 1) t m p hc 18 b nm a_typeAbove a_fieldSet b_ownField a_methodName a_codeLength a_bytes a_heightAt a_kindsAt b_sure a_globals a_objectType a_fieldValue b_global b_objType b_objField a_frameMethod a_frameAt a_frameHeight a_slots b_fMethod b_fPc b_fHigh b_fLocal b_fEntry mF pF hF := ⟨P, KB, LK, HH, f6, t100, R, eM, eP, eHc, eo, eb, enm⟩
    obtain ⟨a1, a2, a3, a4, a5, a6, a7, a8, a9, a10⟩ := R.1 g (by omega)
    obtain ⟨w1, w2, w3, w4⟩ := R.2.1 g (by omega)
    obtain ⟨S, F, k0, k1, k2⟩ := LK _ a1
    obtain ⟨s1, s2, s3, s4, s5⟩ := k2 _ a2 _ w1 w2
    have hL := F.2.1
    have eb2 : gm_n (a_bytes (mF g * 32 + pF g + 1)) = nm := by rw [← w4, eM]; exact enm
    rw [w3, eb2] at s3 s4
    obtain ⟨c1, c2, c3⟩ := s4 (pF g + 2) (Or.inr ⟨by decide, by decide, rfl⟩)
    have ew : wy_h 16 (hF g + 2) = hF g + 1 := by show hF g + 2 - 2 + 1 = hF g + 1; omega
    rw [ew] at c2 c3
    have hp32 : pF g + 2 < 32 := by omega
    refine Or.inl ⟨(nI tc, nI mc, 1, -1, f_flowHeight, nI (g + 1), nI t, -1, f_latestResult, a_typeAbove, a_fieldSet, a_methodType, a_methodName, a_codeLength, a_bytes, a_isStart, a_heightAt, a_kindsAt, a_isWaiting, a_flowKinds, a_globals, a_objectType, a_fieldValue, a_isMarked, a_frameMethod, upd a_frameAt g (nI (pF g + 2)), upd (upd a_frameHeight (g + 1) (nI (hc - 1))) g (nI (hF g + 1)), upd a_slots (g * 9 + 4 + hF g) (a_slots ((g + 1) * 9 + 4 + (hc - 1)))), (nI tc, nI mc, -1, g_result, 1, g_bad, g_high, g_refs, nI (g + 1), nI t, g_code, a_typeAbove, b_ownField, a_methodType, a_methodName, a_codeLength, a_bytes, b_starts, b_seen, b_done, b_heights, b_local, b_sure, b_objType, b_objField, b_marked, b_global, b_fMethod, upd b_fPc g (nI (pF g + 2)), upd b_fHigh g (nI (hF g + 1)), b_fLocal, upd b_fEntry (g * 6 + hF g) (b_fEntry ((g + 1) * 6 + (hc - 1)))), 64 * t + sp (fun i => if i = g then pF g + 2 else pF i) (g + 1), ?_, ⟨tc, mc, h, g + 1, t, mF, (fun i => if i = g then pF g + 2 else pF i), (fun i => if i = g then hF g + 1 else hF i), ⟨rfl, rfl, rfl, rfl, rfl, rfl, rfl, rfl, rfl, rfl, rfl, rfl, rfl, P, KB, LK, HH⟩, rfl, rfl, by omega, by omega, rfl, rfl, t100, rfl, ⟨fun i hi => ?_, fun i hi => ?_, fun i hi => ?_⟩, rfl⟩, fun post J => x_pre (f := g + 1) f_flowHeight f_latestResult a_typeAbove a_fieldSet a_methodType a_methodName a_codeLength a_bytes a_isStart a_heightAt a_kindsAt a_isWaiting a_flowKinds a_globals a_objectType a_fieldValue a_isMarked a_frameMethod a_frameAt a_frameHeight a_slots g_result g_bad g_high g_refs g_code b_ownField b_starts b_seen b_done b_heights b_local b_sure b_objType b_objField b_marked b_global b_fMethod b_fPc b_fHigh b_fLocal b_fEntry C' ?_, fun post J => y_pre (f := g + 1) f_flowHeight f_latestResult a_typeAbove a_fieldSet a_methodType a_methodName a_codeLength a_bytes a_isStart a_heightAt a_kindsAt a_isWaiting a_flowKinds a_globals a_objectType a_fieldValue a_isMarked a_frameMethod a_frameAt a_frameHeight a_slots g_result g_bad g_high g_refs g_code b_ownField b_starts b_seen b_done b_heights b_local b_sure b_objType b_objField b_marked b_global b_fMethod b_fPc b_fHigh b_fLocal b_fEntry C' (fun b1 hb1 hb2 => ?_)⟩
    · rw [sp_top]
      have e1 : sp pF (g + 1 + 1) = sp pF g + (33 - pF g) + (33 - pF (g + 1)) := rfl
      omega
    · by_cases e : i = g
      · subst e
        simp only [if_true]
        refine ⟨a1, c1, by omega, a4, a5, pk_us, pk_us, pk_us, pk_us, fun s hs => ?_⟩
        have hpos : ∀ s, s < 4 + (hF i + 2) → 0 < kk (mF i) a_kindsAt (pF i) s ∧ kk (mF i) a_kindsAt (pF i) s < 8 := fun s hs => by
          obtain ⟨a, z1, z2, z3⟩ := s2 s hs
          rw [kk_nI z3 z2]
          exact ⟨z1, z2⟩
        have hx := xk_pos (o := 16) (b := nm) (k := kk (mF i) a_kindsAt (pF i)) (by decide) (fun z => absurd z (by decide)) s3 hpos (s := s) (by rw [ew]; omega)
        refine VRm_sub hx.2 hx.1 (c3 s hs) ?_
        unfold xk_t
        by_cases es : s = 4 + hF i
        · subst es
          rw [if_neg (by omega), if_neg (by show ¬ 4 + hF i < 4 + (hF i + 2 - 2); omega), if_neg (by decide), show i * 9 + (4 + hF i) = i * 9 + 4 + hF i by omega, pk_us, ysl_eS]
          exact hvk
        · rw [pk_un (by omega), ysl_e (by omega) (by omega) (fun w => es w.2)]
          by_cases h4 : s < 4
          · rw [if_pos h4, if_neg (fun w => by exact absurd w.1 (by decide))]
            exact a10 s (by omega)
          · rw [if_neg h4, if_pos (by show s < 4 + (hF i + 2 - 2); omega)]
            exact a10 s (by omega)
      · simp only [e, if_false]
        exact F1_up (Nat.le_refl h) (R.1 i (by omega)) rfl rfl (pk_un e) (pk_un e) (by rw [pk_un e, pk_un (by omega)]) (pk_un e) (fun s hs => pk_un (by omega)) (fun s hs => ysl_e (by omega) hs (fun w => e w.1))
    · have e : i ≠ g := by omega
      simp only [e, if_false]
      exact R.2.1 i (by omega)
    · have e : i = g := by omega
      subst e
      simp only [if_true]
      exact c2
    · exact br_f (by decide) (br_f (by decide) (br_f (by decide) (br_f (by decide) (br_f (by decide) (br_f (by decide) (br_f (by decide) (br_f (by decide) (br_f (by decide) (br_f (by decide) (br_t (by decide) (ex_leave1 (nI tc) (nI mc) 1 (-1) f_flowHeight (nI t) (-1) f_latestResult a_typeAbove a_fieldSet a_methodType a_methodName a_codeLength a_bytes a_isStart a_heightAt a_kindsAt a_isWaiting a_flowKinds a_globals a_objectType a_fieldValue a_isMarked a_frameMethod a_frameAt a_frameHeight a_slots (by omega) q18 x1 q5 a8 (by omega) a6 (by omega) J)))))))))))
    · rw [if_pos x1]
      exact br_t (by decide) (ey_back1 (nI tc) (nI mc) (-1) g_result 1 g_bad g_high g_refs (nI t) g_code a_typeAbove b_ownField a_methodType a_methodName a_codeLength a_bytes b_starts b_seen b_done b_heights b_local b_sure b_objType b_objField b_marked b_global b_fMethod b_fPc b_fHigh b_fLocal b_fEntry (by omega) a9 (by omega) a7 (by omega) J)
