/-- the context of a step: all but the two states' shape -/
def CT (tc mc h f t m p hc o b nm : Nat) (a_typeAbove a_fieldSet b_ownField a_methodName a_codeLength a_bytes a_heightAt a_kindsAt b_sure a_globals a_objectType a_fieldValue b_global b_objType b_objField a_frameMethod a_frameAt a_frameHeight a_slots b_fMethod b_fPc b_fHigh b_fLocal b_fEntry : Nat → Int32) (mF pF hF : Nat → Nat) : Prop :=
  rl_P tc mc a_typeAbove a_fieldSet b_ownField a_methodName a_codeLength a_bytes ∧ (∀ i, ∃ a, a < 8 ∧ a_kindsAt i = nI a) ∧ rl_L tc mc a_methodName a_codeLength a_bytes a_heightAt a_kindsAt b_sure ∧ rl_H h tc a_fieldSet a_globals a_objectType a_fieldValue b_global b_objType b_objField ∧
  f + 1 ≤ 6 ∧ t ≤ 100 ∧ FR mc h (f + 1) a_codeLength a_methodName a_bytes a_heightAt a_kindsAt a_frameMethod a_frameAt a_frameHeight a_slots b_fMethod b_fPc b_fHigh b_fLocal b_fEntry mF pF hF ∧ mF f = m ∧ pF f = p ∧ hF f = hc ∧ gm_n (a_bytes (m * 32 + p)) = o ∧ gm_n (a_bytes (m * 32 + p + 1)) = b ∧ gm_n (a_methodName m) = nm
theorem ct_F {tc mc h f t m p hc o b nm : Nat} {a_typeAbove a_fieldSet b_ownField a_methodName a_codeLength a_bytes a_heightAt a_kindsAt b_sure a_globals a_objectType a_fieldValue b_global b_objType b_objField a_frameMethod a_frameAt a_frameHeight a_slots b_fMethod b_fPc b_fHigh b_fLocal b_fEntry : Nat → Int32} {mF pF hF : Nat → Nat} (C : CT tc mc h f t m p hc o b nm a_typeAbove a_fieldSet b_ownField a_methodName a_codeLength a_bytes a_heightAt a_kindsAt b_sure a_globals a_objectType a_fieldValue b_global b_objType b_objField a_frameMethod a_frameAt a_frameHeight a_slots b_fMethod b_fPc b_fHigh b_fLocal b_fEntry mF pF hF) :
    m < mc ∧ mc ≤ 8 ∧ tc ≤ 5 ∧ p < 32 ∧ hc ≤ 5 ∧ o < 21 ∧ b < 256 ∧ nm < 16 ∧ a_methodName m = nI nm ∧ a_bytes (m * 32 + p) = nI o ∧ a_bytes (m * 32 + p + 1) = nI b ∧ (is_sg o = false → p + 2 ≤ 32 ∧ is_opd tc o b) ∧ p + is_sz o ≤ 32 ∧
    a_frameMethod f = nI m ∧ b_fMethod f = nI m ∧ a_frameAt f = nI p ∧ b_fPc f = nI p ∧ a_frameHeight f = nI hc ∧ b_fHigh f = nI hc ∧ a_heightAt (m * 32 + p) = nI hc ∧ xk_ok o b nm (kk m a_kindsAt p) hc ∧ (∀ s, s < 4 + hc → 0 < kk m a_kindsAt p s ∧ kk m a_kindsAt p s < 8) ∧ (∀ s, s < 4 + hc → VRm h (kk m a_kindsAt p s) (a_slots (f * 9 + s)) (ysl b_fLocal b_fEntry f s)) ∧
    (∀ p', is_su o b p p' → p' < gm_n (a_codeLength m) ∧ a_heightAt (m * 32 + p') = nI (wy_h o hc) ∧ ∀ s, s < 4 + wy_h o hc → kd_sub (xk_t o b (kk m a_kindsAt p) hc s) (kk m a_kindsAt p' s)) := by
  obtain ⟨P, KB, LK, H, f6, t100, R, rfl, rfl, rfl, rfl, rfl, rfl⟩ := C
  obtain ⟨a1, a2, a3, a4, a5, a6, a7, a8, a9, a10⟩ := R.1 f (by omega)
  have eH := R.2.2 f rfl
  obtain ⟨S, F, k0, k1, k2⟩ := LK _ a1
  obtain ⟨b1, b2, b3, b4, b5⟩ := k2 _ a2 _ a3 eH
  obtain ⟨g1, g2, g3, g4, g5⟩ := F.2.2.2 _ a2 b1
  have hL := F.2.1
  have pN := P.2.2.2.1 (mF f)
  have pB := P.2.2.2.2.2.1
  have hsz : is_sg (gm_n (a_bytes (mF f * 32 + pF f))) = false → is_sz (gm_n (a_bytes (mF f * 32 + pF f))) = 2 := fun z => by unfold is_sz; rw [z]; rfl
  refine ⟨a1, P.2.1, P.1, by omega, a3, g1, (pB _).1, pN.1, pN.2, (pB _).2, (pB _).2, fun z => ⟨?_, g4 z⟩, ?_, a4, a5, a6, a7, a8, a9, eH, b3, fun s hs => ?_, a10, b4⟩
  · have := hsz z
    have g2' : pF f + is_sz (gm_n (a_bytes (mF f * 32 + pF f))) ≤ gm_n (a_codeLength (mF f)) := g2
    omega
  · exact Nat.le_trans g2 hL
  · obtain ⟨a, z1, z2, z3⟩ := b2 s hs
    rw [kk_nI z3 z2]
    exact ⟨z1, z2⟩
/-- on in the same frame -/
theorem so_top (f_flowHeight f_latestResult : Int32) (a_typeAbove a_fieldSet a_methodType a_methodName a_codeLength a_bytes a_isStart a_heightAt a_kindsAt a_isWaiting a_flowKinds a_globals a_objectType a_fieldValue a_isMarked a_frameMethod a_frameAt a_frameHeight a_slots : Nat → Int32) (g_result g_bad g_high g_refs g_code : Int32) (b_ownField b_starts : Nat → Int32) (b_seen b_done : Nat → Int64) (b_heights b_local b_sure b_objType b_objField b_marked b_global b_fMethod b_fPc b_fHigh b_fLocal b_fEntry : Nat → Int32) {tc mc h h' f t t' m p p' hc o b nm : Nat} {mF pF hF : Nat → Nat} {gl' ot' fv' xm' fa' fh' sl' yg' yt' yf' ym' yp' yh' yl' ye' : Nat → Int32} (C : CT tc mc h f t m p hc o b nm a_typeAbove a_fieldSet b_ownField a_methodName a_codeLength a_bytes a_heightAt a_kindsAt b_sure a_globals a_objectType a_fieldValue b_global b_objType b_objField a_frameMethod a_frameAt a_frameHeight a_slots b_fMethod b_fPc b_fHigh b_fLocal b_fEntry mF pF hF) (hsu : is_su o b p p') (hh : h ≤ h') (H' : rl_H h' tc a_fieldSet gl' ot' fv' yg' yt' yf') (ht : (t' = t ∧ p < p') ∨ t = t' + 1)
    (e3 : ∀ i, i < f → fa' i = a_frameAt i) (e4 : ∀ i, i < f → yp' i = b_fPc i) (e5 : ∀ i, i < f → fh' i = a_frameHeight i) (e6 : ∀ i, i < f → yh' i = b_fHigh i) (e7 : ∀ i s, i < f → s < 9 → sl' (i * 9 + s) = a_slots (i * 9 + s)) (e8 : ∀ i s, i < f → s < 9 → ysl yl' ye' i s = ysl b_fLocal b_fEntry i s)
    (t3 : fa' f = nI p') (t4 : yp' f = nI p') (t5 : fh' f = nI (wy_h o hc)) (t6 : yh' f = nI (wy_h o hc)) (hs : ∀ s, s < 4 + wy_h o hc → VRm h' (xk_t o b (kk m a_kindsAt p) hc s) (sl' (f * 9 + s)) (ysl yl' ye' f s))
    (gX : XG (nI tc, nI mc, 1, -1, f_flowHeight, nI (f + 1), nI t, -1, f_latestResult, a_typeAbove, a_fieldSet, a_methodType, a_methodName, a_codeLength, a_bytes, a_isStart, a_heightAt, a_kindsAt, a_isWaiting, a_flowKinds, a_globals, a_objectType, a_fieldValue, a_isMarked, a_frameMethod, a_frameAt, a_frameHeight, a_slots) (nI tc, nI mc, 1, -1, f_flowHeight, nI (f + 1), nI t', -1, f_latestResult, a_typeAbove, a_fieldSet, a_methodType, a_methodName, a_codeLength, a_bytes, a_isStart, a_heightAt, a_kindsAt, a_isWaiting, a_flowKinds, gl', ot', fv', xm', a_frameMethod, fa', fh', sl')) (gY : YG (nI tc, nI mc, -1, g_result, 1, g_bad, g_high, g_refs, nI (f + 1), nI t, g_code, a_typeAbove, b_ownField, a_methodType, a_methodName, a_codeLength, a_bytes, b_starts, b_seen, b_done, b_heights, b_local, b_sure, b_objType, b_objField, b_marked, b_global, b_fMethod, b_fPc, b_fHigh, b_fLocal, b_fEntry) (-1) (nI tc, nI mc, -1, g_result, 1, g_bad, g_high, g_refs, nI (f + 1), nI t', g_code, a_typeAbove, b_ownField, a_methodType, a_methodName, a_codeLength, a_bytes, b_starts, b_seen, b_done, b_heights, b_local, b_sure, yt', yf', ym', yg', b_fMethod, yp', yh', yl', ye')) :
    SO (64 * t + sp pF (f + 1)) (nI tc, nI mc, 1, -1, f_flowHeight, nI (f + 1), nI t, -1, f_latestResult, a_typeAbove, a_fieldSet, a_methodType, a_methodName, a_codeLength, a_bytes, a_isStart, a_heightAt, a_kindsAt, a_isWaiting, a_flowKinds, a_globals, a_objectType, a_fieldValue, a_isMarked, a_frameMethod, a_frameAt, a_frameHeight, a_slots) (nI tc, nI mc, -1, g_result, 1, g_bad, g_high, g_refs, nI (f + 1), nI t, g_code, a_typeAbove, b_ownField, a_methodType, a_methodName, a_codeLength, a_bytes, b_starts, b_seen, b_done, b_heights, b_local, b_sure, b_objType, b_objField, b_marked, b_global, b_fMethod, b_fPc, b_fHigh, b_fLocal, b_fEntry) := by
  obtain ⟨q1, q2, q3, q4, q5, q6, q7, q8, q9, q10, q11, q12, q13, q14, q15, q16, q17, q18, q19, q20, q21, q22, q23, q24⟩ := ct_F C
  obtain ⟨P, KB, LK, H, f6, t100, R, rfl, rfl, rfl, -, -, -⟩ := C
  obtain ⟨s1, s2, s3⟩ := q24 p' hsu
  have hL : gm_n (a_codeLength (mF f)) ≤ 32 := (P.2.2.2.2.1 (mF f)).1
  have hw5 := xk_h5 q5 q21
  refine Or.inl ⟨_, _, 64 * t' + sp (fun i => if i = f then p' else pF i) (f + 1), ?_, ⟨tc, mc, h', f + 1, t', mF, (fun i => if i = f then p' else pF i), (fun i => if i = f then wy_h o (hF f) else hF i), ⟨rfl, rfl, rfl, rfl, rfl, rfl, rfl, rfl, rfl, rfl, rfl, rfl, rfl, P, KB, LK, H'⟩, rfl, rfl, by omega, f6, rfl, rfl, by omega, rfl, ?_, rfl⟩, gX, gY⟩
  · rw [sp_top]
    have : sp pF (f + 1) = sp pF f + (33 - pF f) := rfl
    omega
  · refine FR_top rfl R hh e3 e4 e5 e6 e7 e8 t3 t4 t5 t6 hw5 s1 s2 (fun s hs2 => ?_)
    obtain ⟨z1, z2⟩ := xk_pos q6 (fun z => (q12 (by rw [z]; rfl)).2.1 (Or.inl z)) q21 q22 hs2
    exact VRm_sub z2 z1 (s3 s hs2) (hs s hs2)
/-- the end of a run -/
theorem so_end (f_flowHeight f_latestResult : Int32) (a_typeAbove a_fieldSet a_methodType a_methodName a_codeLength a_bytes a_isStart a_heightAt a_kindsAt a_isWaiting a_flowKinds a_globals a_objectType a_fieldValue a_isMarked a_frameMethod a_frameAt a_frameHeight a_slots : Nat → Int32) (g_result g_bad g_high g_refs g_code : Int32) (b_ownField b_starts : Nat → Int32) (b_seen b_done : Nat → Int64) (b_heights b_local b_sure b_objType b_objField b_marked b_global b_fMethod b_fPc b_fHigh b_fLocal b_fEntry : Nat → Int32) {tc mc h h' f t m p hc o b nm r : Nat} {mF pF hF : Nat → Nat} {u' : SX} {v' : SY} (C : CT tc mc h f t m p hc o b nm a_typeAbove a_fieldSet b_ownField a_methodName a_codeLength a_bytes a_heightAt a_kindsAt b_sure a_globals a_objectType a_fieldValue b_global b_objType b_objField a_frameMethod a_frameAt a_frameHeight a_slots b_fMethod b_fPc b_fHigh b_fLocal b_fEntry mF pF hF) (hr : RE r u' v') (gX : XG (nI tc, nI mc, 1, -1, f_flowHeight, nI (f + 1), nI t, -1, f_latestResult, a_typeAbove, a_fieldSet, a_methodType, a_methodName, a_codeLength, a_bytes, a_isStart, a_heightAt, a_kindsAt, a_isWaiting, a_flowKinds, a_globals, a_objectType, a_fieldValue, a_isMarked, a_frameMethod, a_frameAt, a_frameHeight, a_slots) u') (gY : YG (nI tc, nI mc, -1, g_result, 1, g_bad, g_high, g_refs, nI (f + 1), nI t, g_code, a_typeAbove, b_ownField, a_methodType, a_methodName, a_codeLength, a_bytes, b_starts, b_seen, b_done, b_heights, b_local, b_sure, b_objType, b_objField, b_marked, b_global, b_fMethod, b_fPc, b_fHigh, b_fLocal, b_fEntry) (nI r) v') : SO (64 * t + sp pF (f + 1)) (nI tc, nI mc, 1, -1, f_flowHeight, nI (f + 1), nI t, -1, f_latestResult, a_typeAbove, a_fieldSet, a_methodType, a_methodName, a_codeLength, a_bytes, a_isStart, a_heightAt, a_kindsAt, a_isWaiting, a_flowKinds, a_globals, a_objectType, a_fieldValue, a_isMarked, a_frameMethod, a_frameAt, a_frameHeight, a_slots) (nI tc, nI mc, -1, g_result, 1, g_bad, g_high, g_refs, nI (f + 1), nI t, g_code, a_typeAbove, b_ownField, a_methodType, a_methodName, a_codeLength, a_bytes, b_starts, b_seen, b_done, b_heights, b_local, b_sure, b_objType, b_objField, b_marked, b_global, b_fMethod, b_fPc, b_fHigh, b_fLocal, b_fEntry) := Or.inr ⟨u', v', r, hr, gX, gY⟩
/-! ===== what opens a step ===== -/
theorem x_pre (f_flowHeight f_latestResult : Int32) (a_typeAbove a_fieldSet a_methodType a_methodName a_codeLength a_bytes a_isStart a_heightAt a_kindsAt a_isWaiting a_flowKinds a_globals a_objectType a_fieldValue a_isMarked a_frameMethod a_frameAt a_frameHeight a_slots : Nat → Int32) (g_result g_bad g_high g_refs g_code : Int32) (b_ownField b_starts : Nat → Int32) (b_seen b_done : Nat → Int64) (b_heights b_local b_sure b_objType b_objField b_marked b_global b_fMethod b_fPc b_fHigh b_fLocal b_fEntry : Nat → Int32) {post : SX → Prop} {tc mc h f t m p hc o b nm : Nat} {mF pF hF : Nat → Nat} (C : CT tc mc h f t m p hc o b nm a_typeAbove a_fieldSet b_ownField a_methodName a_codeLength a_bytes a_heightAt a_kindsAt b_sure a_globals a_objectType a_fieldValue b_global b_objType b_objField a_frameMethod a_frameAt a_frameHeight a_slots b_fMethod b_fPc b_fHigh b_fLocal b_fEntry mF pF hF) (J : wX_step_55 post (nI f) (nI o) (nI (is_sz o)) (nI (if is_sg o = true then 0 else b)) (nI tc) (nI mc) 1 (-1) f_flowHeight (nI (f + 1)) (nI t) (-1) f_latestResult a_typeAbove a_fieldSet a_methodType a_methodName a_codeLength a_bytes a_isStart a_heightAt a_kindsAt a_isWaiting a_flowKinds a_globals a_objectType a_fieldValue a_isMarked a_frameMethod a_frameAt a_frameHeight a_slots) : wpX_step post (nI tc, nI mc, 1, -1, f_flowHeight, nI (f + 1), nI t, -1, f_latestResult, a_typeAbove, a_fieldSet, a_methodType, a_methodName, a_codeLength, a_bytes, a_isStart, a_heightAt, a_kindsAt, a_isWaiting, a_flowKinds, a_globals, a_objectType, a_fieldValue, a_isMarked, a_frameMethod, a_frameAt, a_frameHeight, a_slots) := by
  obtain ⟨q1, q2, q3, q4, q5, q6, q7, q8, q9, q10, q11, q12, q13, q14, q15, q16, q17, q18, q19, q20, q21, q22, q23, q24⟩ := ct_F C
  have f6 := C.2.2.2.2.1
  unfold wpX_step
  simp (disch := omega) only [nI_clamp, gm_clL, gm_in, gm_inL, gm_ml, gm_al, gm_la, gm_sl, nI_add, pk_mul, gm_eqL, gm_leL, gm_ltL, gm_Lle, gm_Llt, gm_eq, gm_le, gm_lt, gm_m1, forall_eq, true_and, Nat.not_lt_zero, Nat.add_sub_cancel, gm_z2, gm_z3, gm_z9, gm_z16, gm_z18, gm_z32, gm_z36, gm_z64, gm_z1152, not_true_eq_false, not_false_eq_true, false_implies, true_implies, and_true, implies_true, q14, q16, q10]
  refine ev_sizeOf (by omega) ?_
  cases z : is_sg o
  · have e2 : is_sz o = 2 := by unfold is_sz; rw [z]; rfl
    rw [z, e2] at J
    rw [e2]
    have := q12 z
    refine br_t rfl ⟨vp_in_nI (by omega) (by omega), ?_⟩
    rw [q11]
    exact J
  · have e2 : is_sz o = 1 := by unfold is_sz; rw [z]; rfl
    rw [z, e2] at J
    rw [e2]
    exact br_f (by decide) J
theorem y_pre (f_flowHeight f_latestResult : Int32) (a_typeAbove a_fieldSet a_methodType a_methodName a_codeLength a_bytes a_isStart a_heightAt a_kindsAt a_isWaiting a_flowKinds a_globals a_objectType a_fieldValue a_isMarked a_frameMethod a_frameAt a_frameHeight a_slots : Nat → Int32) (g_result g_bad g_high g_refs g_code : Int32) (b_ownField b_starts : Nat → Int32) (b_seen b_done : Nat → Int64) (b_heights b_local b_sure b_objType b_objField b_marked b_global b_fMethod b_fPc b_fHigh b_fLocal b_fEntry : Nat → Int32) {post : Int32 → SY → Prop} {tc mc h f t m p hc o b nm : Nat} {mF pF hF : Nat → Nat} (C : CT tc mc h f t m p hc o b nm a_typeAbove a_fieldSet b_ownField a_methodName a_codeLength a_bytes a_heightAt a_kindsAt b_sure a_globals a_objectType a_fieldValue b_global b_objType b_objField a_frameMethod a_frameAt a_frameHeight a_slots b_fMethod b_fPc b_fHigh b_fLocal b_fEntry mF pF hF) (J : ∀ b1 : Nat, (is_sg o = false → b1 = b) → b1 < 256 → wY_execute_138 post (nI f) (nI p) (nI o) (nI b1) (if 1 ≤ hc then b_fEntry (f * 6 + (hc - 1)) else 0) (if 2 ≤ hc then b_fEntry (f * 6 + (hc - 2)) else 0) (nI (p + is_sz o)) (nI tc) (nI mc) (-1) g_result 1 g_bad g_high g_refs (nI (f + 1)) (nI t) g_code a_typeAbove b_ownField a_methodType a_methodName a_codeLength a_bytes b_starts b_seen b_done b_heights b_local b_sure b_objType b_objField b_marked b_global b_fMethod b_fPc b_fHigh b_fLocal b_fEntry) : wpY_execute post (nI tc, nI mc, -1, g_result, 1, g_bad, g_high, g_refs, nI (f + 1), nI t, g_code, a_typeAbove, b_ownField, a_methodType, a_methodName, a_codeLength, a_bytes, b_starts, b_seen, b_done, b_heights, b_local, b_sure, b_objType, b_objField, b_marked, b_global, b_fMethod, b_fPc, b_fHigh, b_fLocal, b_fEntry) := by
  obtain ⟨q1, q2, q3, q4, q5, q6, q7, q8, q9, q10, q11, q12, q13, q14, q15, q16, q17, q18, q19, q20, q21, q22, q23, q24⟩ := ct_F C
  have f6 := C.2.2.2.2.1
  have m57 : ∀ b1 : Nat, (is_sg o = false → b1 = b) → b1 < 256 → wY_execute_57 post (nI f) (nI p) (nI o) (nI b1) (nI tc) (nI mc) (-1) g_result 1 g_bad g_high g_refs (nI (f + 1)) (nI t) g_code a_typeAbove b_ownField a_methodType a_methodName a_codeLength a_bytes b_starts b_seen b_done b_heights b_local b_sure b_objType b_objField b_marked b_global b_fMethod b_fPc b_fHigh b_fLocal b_fEntry := by
    intro b1 h1 h2
    have J' := J b1 h1 h2
    have m119 : ∀ v u : Int32, wY_execute_138 post (nI f) (nI p) (nI o) (nI b1) v u (nI (p + is_sz o)) (nI tc) (nI mc) (-1) g_result 1 g_bad g_high g_refs (nI (f + 1)) (nI t) g_code a_typeAbove b_ownField a_methodType a_methodName a_codeLength a_bytes b_starts b_seen b_done b_heights b_local b_sure b_objType b_objField b_marked b_global b_fMethod b_fPc b_fHigh b_fLocal b_fEntry → wY_execute_119 post (nI f) (nI p) (nI o) (nI b1) v u (nI tc) (nI mc) (-1) g_result 1 g_bad g_high g_refs (nI (f + 1)) (nI t) g_code a_typeAbove b_ownField a_methodType a_methodName a_codeLength a_bytes b_starts b_seen b_done b_heights b_local b_sure b_objType b_objField b_marked b_global b_fMethod b_fPc b_fHigh b_fLocal b_fEntry := by
      intro v u K
      unfold wY_execute_119
      refine ev_single (by omega) ?_
      cases z : is_sg o
      · have e2 : is_sz o = 2 := by unfold is_sz; rw [z]; rfl
        rw [e2] at K
        refine br_t rfl ?_
        rw [show nI p + 2 = nI (p + 2) from nI_add p 2]
        exact K
      · have e2 : is_sz o = 1 := by unfold is_sz; rw [z]; rfl
        rw [e2] at K
        refine br_f (by decide) ?_
        rw [nI_1 p]
        exact K
    unfold wY_execute_57 wY_execute_94
    by_cases c1 : 1 ≤ hc
    · rw [if_pos c1] at J'
      have e1 : f * 6 + hc - 1 = f * 6 + (hc - 1) := by omega
      by_cases c2 : 2 ≤ hc
      · rw [if_pos c2] at J'
        have e2 : f * 6 + (hc - 1) - 1 = f * 6 + (hc - 2) := by omega
        simp (disch := omega) only [nI_clamp, gm_clL, gm_in, gm_inL, gm_ml, gm_al, gm_la, gm_sl, nI_add, pk_mul, gm_eqL, gm_leL, gm_ltL, gm_Lle, gm_Llt, gm_eq, gm_le, gm_lt, gm_m1, forall_eq, true_and, Nat.not_lt_zero, Nat.add_sub_cancel, gm_z2, gm_z3, gm_z9, gm_z16, gm_z18, gm_z32, gm_z36, gm_z64, gm_z1152, not_true_eq_false, not_false_eq_true, false_implies, true_implies, and_true, implies_true, q19, e1, e2]
        exact ⟨fun z => absurd z (by omega), fun _ => ⟨fun z => absurd z (by omega), fun _ => m119 _ _ J'⟩⟩
      · rw [if_neg c2] at J'
        simp (disch := omega) only [nI_clamp, gm_clL, gm_in, gm_inL, gm_ml, gm_al, gm_la, gm_sl, nI_add, pk_mul, gm_eqL, gm_leL, gm_ltL, gm_Lle, gm_Llt, gm_eq, gm_le, gm_lt, gm_m1, forall_eq, true_and, Nat.not_lt_zero, Nat.add_sub_cancel, gm_z2, gm_z3, gm_z9, gm_z16, gm_z18, gm_z32, gm_z36, gm_z64, gm_z1152, not_true_eq_false, not_false_eq_true, false_implies, true_implies, and_true, implies_true, q19, e1]
        refine ⟨fun z => absurd z (by omega), fun _ => ⟨fun _ => m119 _ _ J', fun z => absurd (by omega) z⟩⟩
    · have e0 : hc = 0 := by omega
      subst e0
      rw [if_neg c1, if_neg (by omega)] at J'
      simp (disch := omega) only [nI_clamp, gm_clL, gm_in, gm_inL, gm_ml, gm_al, gm_la, gm_sl, nI_add, pk_mul, gm_eqL, gm_leL, gm_ltL, gm_Lle, gm_Llt, gm_eq, gm_le, gm_lt, gm_m1, forall_eq, true_and, Nat.not_lt_zero, Nat.add_sub_cancel, gm_z2, gm_z3, gm_z9, gm_z16, gm_z18, gm_z32, gm_z36, gm_z64, gm_z1152, not_true_eq_false, not_false_eq_true, false_implies, true_implies, and_true, implies_true, q19]
      exact ⟨fun _ => ⟨fun _ => m119 _ _ J', fun z => absurd (by omega) z⟩, fun z => absurd (by omega) z⟩
  unfold wpY_execute
  simp (disch := omega) only [nI_clamp, gm_clL, gm_in, gm_inL, gm_ml, gm_al, gm_la, gm_sl, nI_add, pk_mul, gm_eqL, gm_leL, gm_ltL, gm_Lle, gm_Llt, gm_eq, gm_le, gm_lt, gm_m1, forall_eq, true_and, Nat.not_lt_zero, Nat.add_sub_cancel, gm_z2, gm_z3, gm_z9, gm_z16, gm_z18, gm_z32, gm_z36, gm_z64, gm_z1152, not_true_eq_false, not_false_eq_true, false_implies, true_implies, and_true, implies_true, q15, q17, q10]
  refine ⟨fun z => m57 0 (fun z2 => ?_) (by omega), fun z => ?_⟩
  · have := q12 z2
    omega
  · rw [q11]
    exact ⟨vp_in_nI (by omega) (by omega), m57 b (fun _ => rfl) q7⟩
