theorem is_n1T {o : Nat} (b nm : Nat) (ho : o < 21) : (is_n1 o b nm ≠ 0 ↔ 1 ≤ is_tk o) ∧ is_n1 o b nm < 8 := by
  have hv : ∀ b, is_vk b ≠ 0 ∧ is_vk b < 8 := fun b => by unfold is_vk; split <;> simp
  have ha : ∀ b, is_ak b ≠ 0 ∧ is_ak b < 8 := fun b => by unfold is_ak; split <;> simp
  rcases is_21 ho with rfl | rfl | rfl | rfl | rfl | rfl | rfl | rfl | rfl | rfl | rfl | rfl | rfl | rfl | rfl | rfl | rfl | rfl | rfl | rfl | rfl
  all_goals simp [is_n1, is_tk, (hv b).1, (hv b).2, (ha b).1, (ha b).2, (hv nm).1, (hv nm).2]
theorem is_n2T : ∀ o, o < 21 → (is_n2 o ≠ 0 ↔ is_tk o = 2) ∧ is_n2 o < 8 ∧ is_tk o ≤ 2 := by decide
theorem is_gvT {o : Nat} (b : Nat) (ho : o < 21) (h1 : o ≠ 1) : (is_gk o b ≠ 0 ↔ is_gv o = true) ∧ is_gk o b < 8 ∧ (is_gk o b ≠ 0 → ¬ kd_in 2 (is_gk o b)) := by
  have hv : ∀ b, is_vk b ≠ 0 ∧ is_vk b < 8 ∧ ¬ kd_in 2 (is_vk b) := fun b => by unfold is_vk kd_in; split <;> decide
  rcases is_21 ho with rfl | rfl | rfl | rfl | rfl | rfl | rfl | rfl | rfl | rfl | rfl | rfl | rfl | rfl | rfl | rfl | rfl | rfl | rfl | rfl | rfl
  all_goals first | exact absurd rfl h1 | exact ⟨⟨fun _ => rfl, fun _ => (hv b).1⟩, (hv b).2.1, fun _ => (hv b).2.2⟩ | (simp [is_gk, is_gv, kd_in, kd_m]; done)
theorem kd_tst : ∀ a, a < 8 → ∀ n, n < 8 → ((nI a &&& (nI n ^^^ (-1))) = 0 ↔ kd_sub a n) := by unfold kd_sub kd_in; decide +kernel
theorem kd_ts1 : ∀ a, a < 8 → ((nI a &&& 1) = 0 ↔ ¬ kd_in 2 a) := by unfold kd_in; decide +kernel
/-- taking -/
def tkOK (o b nm : Nat) (k : Nat → Nat) (h : Nat) : Prop := is_tk o ≤ h ∧ (1 ≤ is_tk o → kd_sub (k (3 + h)) (is_n1 o b nm)) ∧ (is_tk o = 2 → kd_sub (k (2 + h)) (is_n2 o))
theorem ev_take (f_typeCount f_methodCount f_linked f_faultPlace f_active f_ticksLeft f_outcome f_latestResult : Int32) (a_typeAbove a_fieldSet a_methodType a_methodName a_codeLength a_bytes a_isStart a_heightAt a_kindsAt a_isWaiting a_flowKinds a_globals a_objectType a_fieldValue a_isMarked a_frameMethod a_frameAt a_frameHeight a_slots : Nat → Int32) {post : Int32 → SX → Prop} {m o b nm h : Nat} {k : Nat → Nat} (hm : m < 8) (ho : o < 21) (hb : b < 256) (hb2 : o = 2 → b < 4) (hn : nm < 16) (eN : a_methodName m = nI nm) (h5 : h ≤ 5) (hk : ∀ s, s < 4 + h → a_flowKinds s = nI (k s) ∧ k s < 8)
    (J1 : tkOK o b nm k h → post 1 (f_typeCount, f_methodCount, f_linked, f_faultPlace, nI (h - is_tk o), f_active, f_ticksLeft, f_outcome, f_latestResult, a_typeAbove, a_fieldSet, a_methodType, a_methodName, a_codeLength, a_bytes, a_isStart, a_heightAt, a_kindsAt, a_isWaiting, if o = 2 then upd a_flowKinds b (nI (k (3 + h))) else a_flowKinds, a_globals, a_objectType, a_fieldValue, a_isMarked, a_frameMethod, a_frameAt, a_frameHeight, a_slots)) (J0 : ¬ tkOK o b nm k h → post 0 (f_typeCount, f_methodCount, f_linked, f_faultPlace, nI h, f_active, f_ticksLeft, f_outcome, f_latestResult, a_typeAbove, a_fieldSet, a_methodType, a_methodName, a_codeLength, a_bytes, a_isStart, a_heightAt, a_kindsAt, a_isWaiting, a_flowKinds, a_globals, a_objectType, a_fieldValue, a_isMarked, a_frameMethod, a_frameAt, a_frameHeight, a_slots)) : wpX_takeEntries post (f_typeCount, f_methodCount, f_linked, f_faultPlace, nI h, f_active, f_ticksLeft, f_outcome, f_latestResult, a_typeAbove, a_fieldSet, a_methodType, a_methodName, a_codeLength, a_bytes, a_isStart, a_heightAt, a_kindsAt, a_isWaiting, a_flowKinds, a_globals, a_objectType, a_fieldValue, a_isMarked, a_frameMethod, a_frameAt, a_frameHeight, a_slots) (nI m) (nI o) (nI b) := by
  obtain ⟨n1a, n1b⟩ := is_n1T b nm ho
  obtain ⟨n2a, n2b, t2⟩ := is_n2T o ho
  have hgo : ∀ t : Nat, t = is_tk o → ∀ z1 z0 : Int32, z1 + z0 = nI t → wX_takeEntries_35 post (nI o) (nI b) (nI (is_n1 o b nm)) (nI (is_n2 o)) z0 z1 f_typeCount f_methodCount f_linked f_faultPlace (nI h) f_active f_ticksLeft f_outcome f_latestResult a_typeAbove a_fieldSet a_methodType a_methodName a_codeLength a_bytes a_isStart a_heightAt a_kindsAt a_isWaiting a_flowKinds a_globals a_objectType a_fieldValue a_isMarked a_frameMethod a_frameAt a_frameHeight a_slots := by
    intro t ht z1 z0 ez
    have h107 : tkOK o b nm k h → wX_takeEntries_107 post (nI o) (nI b) (nI t) (nI (4 + h - 1)) f_typeCount f_methodCount f_linked f_faultPlace (nI h) f_active f_ticksLeft f_outcome f_latestResult a_typeAbove a_fieldSet a_methodType a_methodName a_codeLength a_bytes a_isStart a_heightAt a_kindsAt a_isWaiting a_flowKinds a_globals a_objectType a_fieldValue a_isMarked a_frameMethod a_frameAt a_frameHeight a_slots := by
      intro hok
      have h1 := hok.1
      have J := J1 hok
      unfold wX_takeEntries_107 wX_takeEntries_125
      by_cases e2 : o = 2
      · subst e2
        have ht1 : t = 1 := ht
        have h4 := hb2 rfl
        subst ht1
        have h1' : 1 ≤ h := h1
        have hks := hk (4 + h - 1) (by omega)
        have e4 : 4 + h - 1 = 3 + h := by omega
        rw [e4] at hks ⊢
        rw [if_pos rfl] at J
        simp (disch := omega) only [nI_clamp, gm_clL, gm_in, gm_inL, gm_ml, gm_al, gm_la, gm_sl, nI_add, pk_mul, gm_eqL, gm_leL, gm_ltL, gm_Lle, gm_Llt, gm_eq, gm_le, gm_lt, gm_m1, forall_eq, true_and, Nat.not_lt_zero, Nat.add_sub_cancel, gm_z2, gm_z3, gm_z9, gm_z16, gm_z18, gm_z32, gm_z36, gm_z64, gm_z1152, not_true_eq_false, not_false_eq_true, false_implies, true_implies, and_true, implies_true, gm_z1, Nat.reduceEqDiff, Nat.reduceLT, Nat.reduceLeDiff, Nat.reduceAdd, Nat.reduceMul, Nat.reduceSub, gm_sb, hks.1]
        exact J
      · rw [if_neg e2] at J
        refine br_f (by rw [gm_eqL (by omega) (by omega)]; exact e2) (nm_r (gm_sb (by omega)) ?_)
        rw [ht]; exact J
    have h82 : is_tk o ≤ h → (1 ≤ is_tk o → kd_sub (k (3 + h)) (is_n1 o b nm)) → wX_takeEntries_82 post (nI o) (nI b) (nI (is_n2 o)) (nI t) (nI (4 + h - 1)) f_typeCount f_methodCount f_linked f_faultPlace (nI h) f_active f_ticksLeft f_outcome f_latestResult a_typeAbove a_fieldSet a_methodType a_methodName a_codeLength a_bytes a_isStart a_heightAt a_kindsAt a_isWaiting a_flowKinds a_globals a_objectType a_fieldValue a_isMarked a_frameMethod a_frameAt a_frameHeight a_slots := by
      intro a1 a2
      unfold wX_takeEntries_82
      by_cases e2 : t = 2
      · have hks := hk (2 + h) (by omega)
        subst e2
        have e4 : 4 + h - 1 - 1 = 2 + h := by omega
        simp (disch := omega) only [nI_clamp, gm_clL, gm_in, gm_inL, gm_ml, gm_al, gm_la, gm_sl, nI_add, pk_mul, gm_eqL, gm_leL, gm_ltL, gm_Lle, gm_Llt, gm_eq, gm_le, gm_lt, gm_m1, forall_eq, true_and, Nat.not_lt_zero, Nat.add_sub_cancel, gm_z2, gm_z3, gm_z9, gm_z16, gm_z18, gm_z32, gm_z36, gm_z64, gm_z1152, not_true_eq_false, not_false_eq_true, false_implies, true_implies, and_true, implies_true, gm_z1, Nat.reduceEqDiff, Nat.reduceLT, Nat.reduceLeDiff, Nat.reduceAdd, Nat.reduceMul, Nat.reduceSub, e4, hks.1, kd_tst _ hks.2 _ n2b]
        exact ⟨fun z => h107 ⟨a1, a2, fun _ => z⟩, fun z => J0 (fun w => z (w.2.2 ht.symm))⟩
      · refine br_f (by rw [gm_eqL (by omega) (by omega)]; exact e2) (h107 ⟨a1, a2, fun z => absurd (ht.trans z) e2⟩)
    unfold wX_takeEntries_35
    refine nm_r ez (pk_le t h (fun c => ?_) (fun c => J0 (fun w => by have := w.1; omega)))
    have e3 : (4 + nI h) - 1 = nI (4 + h - 1) := by simp (disch := omega) only [gm_la, gm_sl]
    refine nm_r e3 (pk_lt t 1 (fun c1 => h82 (by omega) (fun z => absurd z (by omega))) (fun c1 => ?_))
    have hks := hk (3 + h) (by omega)
    have e4 : 4 + h - 1 = 3 + h := by omega
    rw [e4] at h82 ⊢
    rw [nI_clamp (by omega), hks.1, kd_tst _ hks.2 _ n1b]
    exact ⟨vp_in_nI (by omega) (by omega), fun z => h82 (by omega) (fun _ => z), fun z => J0 (fun w => z (w.2.1 (by omega)))⟩
  unfold wpX_takeEntries
  refine ev_topNeed f_typeCount f_methodCount f_linked f_faultPlace (nI h) f_active f_ticksLeft f_outcome f_latestResult a_typeAbove a_fieldSet a_methodType a_methodName a_codeLength a_bytes a_isStart a_heightAt a_kindsAt a_isWaiting a_flowKinds a_globals a_objectType a_fieldValue a_isMarked a_frameMethod a_frameAt a_frameHeight a_slots hm ho hb hn eN (ev_secondNeed ho ?_)
  unfold wX_takeEntries_25
  simp (disch := omega) only [gm_eqL]
  refine ⟨fun a => ⟨fun c => hgo 0 ?_ 0 0 rfl, fun c => absurd c ?_⟩, fun a => ⟨fun c => hgo 1 ?_ 1 0 rfl, fun c => hgo 2 ?_ 1 1 rfl⟩⟩
  · have : ¬ 1 ≤ is_tk o := fun z => n1a.mpr z a
    omega
  · intro c
    have : ¬ 1 ≤ is_tk o := fun z => n1a.mpr z a
    have := n2a.mp c
    omega
  · have h1 := n1a.mp a
    have : ¬ is_tk o = 2 := fun z => n2a.mpr z c
    omega
  · exact (n2a.mp c).symm
/-- giving -/
theorem ev_give (f_typeCount f_methodCount f_linked f_faultPlace f_active f_ticksLeft f_outcome f_latestResult : Int32) (a_typeAbove a_fieldSet a_methodType a_methodName a_codeLength a_bytes a_isStart a_heightAt a_kindsAt a_isWaiting a_flowKinds a_globals a_objectType a_fieldValue a_isMarked a_frameMethod a_frameAt a_frameHeight a_slots : Nat → Int32) {post : Int32 → SX → Prop} {o b h1 : Nat} {kb : Nat} (ho : o < 21) (hb : b < 256) (hb1 : o = 1 → b < 4 ∧ a_flowKinds b = nI kb ∧ kb < 8 ∧ 0 < kb) (h5 : h1 ≤ 5)
    (J1 : (o = 1 → ¬ kd_in 2 kb) → (is_gv o = true → h1 < 5) → post 1 (f_typeCount, f_methodCount, f_linked, f_faultPlace, nI (h1 + (if is_gv o = true then 1 else 0)), f_active, f_ticksLeft, f_outcome, f_latestResult, a_typeAbove, a_fieldSet, a_methodType, a_methodName, a_codeLength, a_bytes, a_isStart, a_heightAt, a_kindsAt, a_isWaiting, if is_gv o = true then upd a_flowKinds (4 + h1) (nI (if o = 1 then kb else is_gk o b)) else a_flowKinds, a_globals, a_objectType, a_fieldValue, a_isMarked, a_frameMethod, a_frameAt, a_frameHeight, a_slots)) (J0 : ¬ ((o = 1 → ¬ kd_in 2 kb) ∧ (is_gv o = true → h1 < 5)) → post 0 (f_typeCount, f_methodCount, f_linked, f_faultPlace, nI h1, f_active, f_ticksLeft, f_outcome, f_latestResult, a_typeAbove, a_fieldSet, a_methodType, a_methodName, a_codeLength, a_bytes, a_isStart, a_heightAt, a_kindsAt, a_isWaiting, a_flowKinds, a_globals, a_objectType, a_fieldValue, a_isMarked, a_frameMethod, a_frameAt, a_frameHeight, a_slots)) : wpX_giveEntry post (f_typeCount, f_methodCount, f_linked, f_faultPlace, nI h1, f_active, f_ticksLeft, f_outcome, f_latestResult, a_typeAbove, a_fieldSet, a_methodType, a_methodName, a_codeLength, a_bytes, a_isStart, a_heightAt, a_kindsAt, a_isWaiting, a_flowKinds, a_globals, a_objectType, a_fieldValue, a_isMarked, a_frameMethod, a_frameAt, a_frameHeight, a_slots) (nI o) (nI b) := by
  unfold wpX_giveEntry
  by_cases e1 : o = 1
  · obtain ⟨c1, c2, c3, c4⟩ := hb1 e1
    subst e1
    refine br_t rfl ⟨vp_in_nI (by omega) (by omega), ?_⟩
    have g1 : is_gv 1 = true := rfl
    rw [nI_clamp (by omega), c2]
    unfold wX_giveEntry_19
    refine br_f (nI_ne0 c4 (by omega)) ?_
    rw [kd_ts1 _ c3]
    refine ⟨fun a => pk_eq h1 5 (fun e => J0 (fun w => by have := w.2 g1; omega)) (fun e => ?_), fun a => J0 (fun w => a (w.1 rfl))⟩
    have J := J1 (fun _ => a) (fun _ => by omega)
    simp (disch := omega) only [nI_clamp, gm_clL, gm_in, gm_inL, gm_ml, gm_al, gm_la, gm_sl, nI_add, pk_mul, gm_eqL, gm_leL, gm_ltL, gm_Lle, gm_Llt, gm_eq, gm_le, gm_lt, gm_m1, forall_eq, true_and, Nat.not_lt_zero, Nat.add_sub_cancel, gm_z2, gm_z3, gm_z9, gm_z16, gm_z18, gm_z32, gm_z36, gm_z64, gm_z1152, not_true_eq_false, not_false_eq_true, false_implies, true_implies, and_true, implies_true, gm_z1, Nat.reduceEqDiff, Nat.reduceLT, Nat.reduceLeDiff, Nat.reduceAdd, Nat.reduceMul, Nat.reduceSub]
    exact J
  · refine br_f (by rw [gm_eqL (by omega) (by omega)]; exact e1) (ev_givenKind ho hb ?_)
    obtain ⟨g1, g2, g3⟩ := is_gvT b ho e1
    unfold wX_giveEntry_19
    refine pk_eq (is_gk o b) 0 (fun a => ?_) (fun a => ?_)
    · have hg : is_gv o = false := by
        cases hg : is_gv o
        · rfl
        · exact absurd a (g1.mpr hg)
      have J := J1 (fun z => absurd z e1) (fun z => by rw [hg] at z; exact nomatch z)
      rw [hg] at J
      exact J
    · have hg := g1.mp a
      rw [hg] at J1 J0
      refine br_t ((kd_ts1 _ g2).mpr (g3 a)) (pk_eq h1 5 (fun e => J0 (fun w => by have := w.2 rfl; omega)) (fun e => ?_))
      have J := J1 (fun z => absurd z e1) (fun _ => by omega)
      rw [if_neg e1] at J
      simp (disch := omega) only [nI_clamp, gm_clL, gm_in, gm_inL, gm_ml, gm_al, gm_la, gm_sl, nI_add, pk_mul, gm_eqL, gm_leL, gm_ltL, gm_Lle, gm_Llt, gm_eq, gm_le, gm_lt, gm_m1, forall_eq, true_and, Nat.not_lt_zero, Nat.add_sub_cancel, gm_z2, gm_z3, gm_z9, gm_z16, gm_z18, gm_z32, gm_z36, gm_z64, gm_z1152, not_true_eq_false, not_false_eq_true, false_implies, true_implies, and_true, implies_true, gm_z1, Nat.reduceEqDiff, Nat.reduceLT, Nat.reduceLeDiff, Nat.reduceAdd, Nat.reduceMul, Nat.reduceSub]
      exact J
/-- both: the kinds behind are the transfer's -/
theorem ev_tg (f_typeCount f_methodCount f_linked f_faultPlace f_active f_ticksLeft f_outcome f_latestResult : Int32) (a_typeAbove a_fieldSet a_methodType a_methodName a_codeLength a_bytes a_isStart a_heightAt a_kindsAt a_isWaiting a_flowKinds a_globals a_objectType a_fieldValue a_isMarked a_frameMethod a_frameAt a_frameHeight a_slots : Nat → Int32) {m o b nm h : Nat} {k : Nat → Nat} (hm : m < 8) (ho : o < 21) (hb : b < 256) (hb1 : o = 1 → b < 4) (hb2 : o = 2 → b < 4) (hn : nm < 16) (eN : a_methodName m = nI nm) (h5 : h ≤ 5) (hk : ∀ s, s < 4 + h → a_flowKinds s = nI (k s) ∧ 0 < k s ∧ k s < 8) :
    ∃ (fh : Int32) (FK : Nat → Int32), (xk_ok o b nm k h → fh = nI (wy_h o h) ∧ ∀ s, s < 4 + wy_h o h → FK s = nI (xk_t o b k h s)) ∧ ∀ (post : Int32 → SX → Prop) (Q : SX → Prop), (¬ xk_ok o b nm k h → post 0 (f_typeCount, f_methodCount, f_linked, f_faultPlace, fh, f_active, f_ticksLeft, f_outcome, f_latestResult, a_typeAbove, a_fieldSet, a_methodType, a_methodName, a_codeLength, a_bytes, a_isStart, a_heightAt, a_kindsAt, a_isWaiting, FK, a_globals, a_objectType, a_fieldValue, a_isMarked, a_frameMethod, a_frameAt, a_frameHeight, a_slots)) → (xk_ok o b nm k h → Q (f_typeCount, f_methodCount, f_linked, f_faultPlace, fh, f_active, f_ticksLeft, f_outcome, f_latestResult, a_typeAbove, a_fieldSet, a_methodType, a_methodName, a_codeLength, a_bytes, a_isStart, a_heightAt, a_kindsAt, a_isWaiting, FK, a_globals, a_objectType, a_fieldValue, a_isMarked, a_frameMethod, a_frameAt, a_frameHeight, a_slots)) →
    wpX_takeEntries (fun r u => match u with | (f_typeCount1, f_methodCount1, f_linked1, f_faultPlace1, f_flowHeight1, f_active1, f_ticksLeft1, f_outcome1, f_latestResult1, a_typeAbove1, a_fieldSet1, a_methodType1, a_methodName1, a_codeLength1, a_bytes1, a_isStart1, a_heightAt1, a_kindsAt1, a_isWaiting1, a_flowKinds1, a_globals1, a_objectType1, a_fieldValue1, a_isMarked1, a_frameMethod1, a_frameAt1, a_frameHeight1, a_slots1) => (((r = 0 → (post 0 (f_typeCount1, f_methodCount1, f_linked1, f_faultPlace1, f_flowHeight1, f_active1, f_ticksLeft1, f_outcome1, f_latestResult1, a_typeAbove1, a_fieldSet1, a_methodType1, a_methodName1, a_codeLength1, a_bytes1, a_isStart1, a_heightAt1, a_kindsAt1, a_isWaiting1, a_flowKinds1, a_globals1, a_objectType1, a_fieldValue1, a_isMarked1, a_frameMethod1, a_frameAt1, a_frameHeight1, a_slots1))) ∧ (¬ r = 0 → (wpX_giveEntry (fun r u => match u with | (f_typeCount2, f_methodCount2, f_linked2, f_faultPlace2, f_flowHeight2, f_active2, f_ticksLeft2, f_outcome2, f_latestResult2, a_typeAbove2, a_fieldSet2, a_methodType2, a_methodName2, a_codeLength2, a_bytes2, a_isStart2, a_heightAt2, a_kindsAt2, a_isWaiting2, a_flowKinds2, a_globals2, a_objectType2, a_fieldValue2, a_isMarked2, a_frameMethod2, a_frameAt2, a_frameHeight2, a_slots2) => (((r = 0 → (post 0 (f_typeCount2, f_methodCount2, f_linked2, f_faultPlace2, f_flowHeight2, f_active2, f_ticksLeft2, f_outcome2, f_latestResult2, a_typeAbove2, a_fieldSet2, a_methodType2, a_methodName2, a_codeLength2, a_bytes2, a_isStart2, a_heightAt2, a_kindsAt2, a_isWaiting2, a_flowKinds2, a_globals2, a_objectType2, a_fieldValue2, a_isMarked2, a_frameMethod2, a_frameAt2, a_frameHeight2, a_slots2))) ∧ (¬ r = 0 → Q (f_typeCount2, f_methodCount2, f_linked2, f_faultPlace2, f_flowHeight2, f_active2, f_ticksLeft2, f_outcome2, f_latestResult2, a_typeAbove2, a_fieldSet2, a_methodType2, a_methodName2, a_codeLength2, a_bytes2, a_isStart2, a_heightAt2, a_kindsAt2, a_isWaiting2, a_flowKinds2, a_globals2, a_objectType2, a_fieldValue2, a_isMarked2, a_frameMethod2, a_frameAt2, a_frameHeight2, a_slots2))))) (f_typeCount1, f_methodCount1, f_linked1, f_faultPlace1, f_flowHeight1, f_active1, f_ticksLeft1, f_outcome1, f_latestResult1, a_typeAbove1, a_fieldSet1, a_methodType1, a_methodName1, a_codeLength1, a_bytes1, a_isStart1, a_heightAt1, a_kindsAt1, a_isWaiting1, a_flowKinds1, a_globals1, a_objectType1, a_fieldValue1, a_isMarked1, a_frameMethod1, a_frameAt1, a_frameHeight1, a_slots1) (nI o) (nI b)))))) (f_typeCount, f_methodCount, f_linked, f_faultPlace, nI h, f_active, f_ticksLeft, f_outcome, f_latestResult, a_typeAbove, a_fieldSet, a_methodType, a_methodName, a_codeLength, a_bytes, a_isStart, a_heightAt, a_kindsAt, a_isWaiting, a_flowKinds, a_globals, a_objectType, a_fieldValue, a_isMarked, a_frameMethod, a_frameAt, a_frameHeight, a_slots) (nI m) (nI o) (nI b) := by
  have e12 : o = 1 → o ≠ 2 := fun e => by omega
  by_cases hok : tkOK o b nm k h
  · have hg : o = 1 → b < 4 ∧ (if o = 2 then upd a_flowKinds b (nI (k (3 + h))) else a_flowKinds) b = nI (k b) ∧ k b < 8 ∧ 0 < k b := fun e => ⟨hb1 e, by rw [if_neg (e12 e)]; exact (hk b (by have := hb1 e; omega)).1, (hk b (by have := hb1 e; omega)).2.2, (hk b (by have := hb1 e; omega)).2.1⟩
    by_cases hgv : (o = 1 → ¬ kd_in 2 (k b)) ∧ (is_gv o = true → h - is_tk o < 5)
    · have hx : xk_ok o b nm k h := ⟨hok.1, hok.2.1, hok.2.2, hgv.1, hgv.2⟩
      refine ⟨nI (wy_h o h), if is_gv o = true then upd (if o = 2 then upd a_flowKinds b (nI (k (3 + h))) else a_flowKinds) (4 + (h - is_tk o)) (nI (if o = 1 then k b else is_gk o b)) else (if o = 2 then upd a_flowKinds b (nI (k (3 + h))) else a_flowKinds), fun _ => ⟨rfl, ?_⟩, fun post Q J0 J1 => ?_⟩
      rotate_left
      · refine ev_take f_typeCount f_methodCount f_linked f_faultPlace f_active f_ticksLeft f_outcome f_latestResult a_typeAbove a_fieldSet a_methodType a_methodName a_codeLength a_bytes a_isStart a_heightAt a_kindsAt a_isWaiting a_flowKinds a_globals a_objectType a_fieldValue a_isMarked a_frameMethod a_frameAt a_frameHeight a_slots hm ho hb hb2 hn eN h5 (fun s hs => ⟨(hk s hs).1, (hk s hs).2.2⟩) (fun _ => br_f (by decide) ?_) (fun z => absurd hok z)
        refine ev_give f_typeCount f_methodCount f_linked f_faultPlace f_active f_ticksLeft f_outcome f_latestResult a_typeAbove a_fieldSet a_methodType a_methodName a_codeLength a_bytes a_isStart a_heightAt a_kindsAt a_isWaiting (if o = 2 then upd a_flowKinds b (nI (k (3 + h))) else a_flowKinds) a_globals a_objectType a_fieldValue a_isMarked a_frameMethod a_frameAt a_frameHeight a_slots (kb := k b) ho hb hg (by omega) (fun a1 a2 => br_f (by decide) ?_) (fun a => absurd hgv a)
        exact J1 hx
      · intro s hs
        have t0 := hok.1
        have base : ∀ s, s < 4 + (h - is_tk o) → (if o = 2 then upd a_flowKinds b (nI (k (3 + h))) else a_flowKinds) s = nI (if o = 2 ∧ s = b then k (3 + h) else k s) := by
          intro s hs
          by_cases e2 : o = 2
          · rw [if_pos e2]
            by_cases e3 : s = b
            · subst e3; rw [pk_us, if_pos ⟨e2, rfl⟩]
            · rw [pk_un e3, if_neg (fun w => e3 w.2)]; exact (hk s (by omega)).1
          · rw [if_neg e2, if_neg (fun w => e2 w.1)]; exact (hk s (by omega)).1
        unfold xk_t
        unfold wy_h at hs
        by_cases h4 : s < 4
        · rw [if_pos h4, ← base s (by omega)]
          cases hg : is_gv o
          · rfl
          · rw [if_pos rfl, pk_un (by omega)]
        · rw [if_neg h4]
          by_cases h2 : s < 4 + (h - is_tk o)
          · rw [if_pos h2]
            have e3 : ¬ (o = 2 ∧ s = b) := fun w => by have := hb2 w.1; omega
            have hbs := base s h2
            rw [if_neg e3] at hbs
            rw [← hbs]
            cases hg : is_gv o
            · rfl
            · rw [if_pos rfl, pk_un (by omega)]
          · rw [if_neg h2]
            have hg : is_gv o = true := by
              cases hg : is_gv o
              · rw [hg] at hs; simp at hs; omega
              · rfl
            rw [hg] at hs ⊢
            simp only [if_true] at hs ⊢
            have e3 : s = 4 + (h - is_tk o) := by omega
            rw [e3, pk_us]
    · have hx : ¬ xk_ok o b nm k h := fun w => hgv ⟨w.2.2.2.1, w.2.2.2.2⟩
      refine ⟨nI (h - is_tk o), (if o = 2 then upd a_flowKinds b (nI (k (3 + h))) else a_flowKinds), fun w => absurd w hx, fun post Q J0 J1 => ?_⟩
      refine ev_take f_typeCount f_methodCount f_linked f_faultPlace f_active f_ticksLeft f_outcome f_latestResult a_typeAbove a_fieldSet a_methodType a_methodName a_codeLength a_bytes a_isStart a_heightAt a_kindsAt a_isWaiting a_flowKinds a_globals a_objectType a_fieldValue a_isMarked a_frameMethod a_frameAt a_frameHeight a_slots hm ho hb hb2 hn eN h5 (fun s hs => ⟨(hk s hs).1, (hk s hs).2.2⟩) (fun _ => br_f (by decide) ?_) (fun z => absurd hok z)
      exact ev_give f_typeCount f_methodCount f_linked f_faultPlace f_active f_ticksLeft f_outcome f_latestResult a_typeAbove a_fieldSet a_methodType a_methodName a_codeLength a_bytes a_isStart a_heightAt a_kindsAt a_isWaiting (if o = 2 then upd a_flowKinds b (nI (k (3 + h))) else a_flowKinds) a_globals a_objectType a_fieldValue a_isMarked a_frameMethod a_frameAt a_frameHeight a_slots (kb := k b) ho hb hg (by omega) (fun a1 a2 => absurd ⟨a1, a2⟩ hgv) (fun a => br_t rfl (J0 hx))
  · have hx : ¬ xk_ok o b nm k h := fun w => hok ⟨w.1, w.2.1, w.2.2.1⟩
    refine ⟨nI h, a_flowKinds, fun w => absurd w hx, fun post Q J0 J1 => ?_⟩
    exact ev_take f_typeCount f_methodCount f_linked f_faultPlace f_active f_ticksLeft f_outcome f_latestResult a_typeAbove a_fieldSet a_methodType a_methodName a_codeLength a_bytes a_isStart a_heightAt a_kindsAt a_isWaiting a_flowKinds a_globals a_objectType a_fieldValue a_isMarked a_frameMethod a_frameAt a_frameHeight a_slots hm ho hb hb2 hn eN h5 (fun s hs => ⟨(hk s hs).1, (hk s hs).2.2⟩) (fun z => absurd z hok) (fun z => br_t rfl (J0 hx))
