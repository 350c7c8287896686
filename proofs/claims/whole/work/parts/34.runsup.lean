/-! ===== IS ===== -/
theorem is_chain (f_typeCount f_methodCount f_linked f_faultPlace f_flowHeight f_active f_ticksLeft f_outcome f_latestResult : Int32) (a_typeAbove a_fieldSet a_methodType a_methodName a_codeLength a_bytes a_isStart a_heightAt a_kindsAt a_isWaiting a_flowKinds a_globals a_objectType a_fieldValue a_isMarked a_frameMethod a_frameAt a_frameHeight a_slots : Nat → Int32) (g_types g_methods g_place g_result g_linked g_bad g_high g_refs g_active g_ticks g_code : Int32) (b_ownField b_mType b_mName b_mLength b_bytes b_starts : Nat → Int32) (b_seen b_done : Nat → Int64) (b_heights b_local b_sure b_objType b_objField b_marked b_global b_fMethod b_fPc b_fHigh b_fLocal b_fEntry : Nat → Int32) {tc mc b : Nat} {fs own mN mL by' : Nat → Int32} (P : rl_P tc mc a_typeAbove fs own mN mL by') (hb : b < 5) : ∀ t, t < tc → ∃ z : Bool, (∀ (post : Int32 → Prop) up n, up + t ≤ 4 → t + 2 ≤ n → post (b01 z) → wX_isOfType_9 post (nI b) f_typeCount f_methodCount f_linked f_faultPlace f_flowHeight f_active f_ticksLeft f_outcome f_latestResult a_typeAbove a_fieldSet a_methodType a_methodName a_codeLength a_bytes a_isStart a_heightAt a_kindsAt a_isWaiting a_flowKinds a_globals a_objectType a_fieldValue a_isMarked a_frameMethod a_frameAt a_frameHeight a_slots n (nI t) (nI up)) ∧ (∀ (post : Int32 → Prop) n, t + 2 ≤ n → post (b01 z) → wY_below_13 post (nI b) g_types g_methods g_place g_result g_linked g_bad g_high g_refs g_active g_ticks g_code a_typeAbove b_ownField b_mType b_mName b_mLength b_bytes b_starts b_seen b_done b_heights b_local b_sure b_objType b_objField b_marked b_global b_fMethod b_fPc b_fHigh b_fLocal b_fEntry n (nI t)) := by
  have h5 := P.1
  have hab := P.2.2.1
  intro t
  induction t using Nat.strongRecOn with
  | ind t ih =>
    intro ht
    have nm : ¬ nI t = -1 := of_eq_false (gm_m1 (by omega))
    by_cases e : t = b
    · subst e
      refine ⟨true, fun post up n h1 h2 J => ?_, fun post n h2 J => ?_⟩
      · obtain ⟨n, rfl⟩ : ∃ k, n = k + 1 := ⟨n - 1, by omega⟩
        unfold wX_isOfType_9 wX_isOfType_38
        exact br_f (nI_ge (b := 5) (by omega) (by decide)) (br_f nm (br_t rfl (br_t rfl J)))
      · obtain ⟨n, rfl⟩ : ∃ k, n = k + 1 := ⟨n - 1, by omega⟩
        unfold wY_below_13
        exact br_f (nI_pos (by omega)) (br_t rfl J)
    · have ne : ¬ nI t = nI b := fun z => e (gp_inj (by omega) (by omega) z)
      rcases hab t ht with ea | ⟨a, ha, ea⟩
      · refine ⟨false, fun post up n h1 h2 J => ?_, fun post n h2 J => ?_⟩
        · obtain ⟨n, rfl⟩ : ∃ k, n = k + 2 := ⟨n - 2, by omega⟩
          have nb : ¬ (-1 : Int32) = nI b := fun z => gp_m1n (a := b) (by omega) z.symm
          unfold wX_isOfType_9
          refine br_f (nI_ge (b := 5) (by omega) (by decide)) (br_f nm (br_f ne ⟨vp_in_nI (by omega) (by omega), ?_⟩))
          rw [nI_clamp (by omega), ea]
          refine nm_e (nm_e ?_)
          unfold wX_isOfType_9 wX_isOfType_38
          exact ⟨fun _ => br_f nb J, fun _ => br_t rfl (br_f nb J)⟩
        · obtain ⟨n, rfl⟩ : ∃ k, n = k + 2 := ⟨n - 2, by omega⟩
          unfold wY_below_13
          refine br_f (nI_pos (by omega)) (br_f ne ⟨vp_in_nI (by omega) (by omega), ?_⟩)
          rw [nI_clamp (by omega), ea]
          refine nm_e ?_
          unfold wY_below_13
          exact br_t (by decide) J
      · obtain ⟨z, k1, k2⟩ := ih a ha (by omega)
        refine ⟨z, fun post up n h1 h2 J => ?_, fun post n h2 J => ?_⟩
        · obtain ⟨n, rfl⟩ : ∃ k, n = k + 1 := ⟨n - 1, by omega⟩
          unfold wX_isOfType_9
          refine br_f (nI_ge (b := 5) (by omega) (by decide)) (br_f nm (br_f ne ⟨vp_in_nI (by omega) (by omega), ?_⟩))
          rw [nI_clamp (by omega), ea]
          exact nm_e (nm_r (nI_1 up) (k1 post (up + 1) n (by omega) (by omega) J))
        · obtain ⟨n, rfl⟩ : ∃ k, n = k + 1 := ⟨n - 1, by omega⟩
          unfold wY_below_13
          refine br_f (nI_pos (by omega)) (br_f ne ⟨vp_in_nI (by omega) (by omega), ?_⟩)
          rw [nI_clamp (by omega), ea]
          exact nm_e (k2 post n (by omega) J)
theorem is_both (f_typeCount f_methodCount f_linked f_faultPlace f_flowHeight f_active f_ticksLeft f_outcome f_latestResult : Int32) (a_typeAbove a_fieldSet a_methodType a_methodName a_codeLength a_bytes a_isStart a_heightAt a_kindsAt a_isWaiting a_flowKinds a_globals a_objectType a_fieldValue a_isMarked a_frameMethod a_frameAt a_frameHeight a_slots : Nat → Int32) (g_types g_methods g_place g_result g_linked g_bad g_high g_refs g_active g_ticks g_code : Int32) (b_ownField b_mType b_mName b_mLength b_bytes b_starts : Nat → Int32) (b_seen b_done : Nat → Int64) (b_heights b_local b_sure b_objType b_objField b_marked b_global b_fMethod b_fPc b_fHigh b_fLocal b_fEntry : Nat → Int32) {tc mc h b r : Nat} {fs own mN mL by' gl fv yg yf : Nat → Int32} (P : rl_P tc mc a_typeAbove fs own mN mL by') (H : rl_H h tc fs gl a_objectType fv yg b_objType yf) (hb : b < 5) (hr : r ≤ h) : ∃ z : Bool, (∀ post : Int32 → Prop, post (b01 z) → wpX_isOfType post (f_typeCount, f_methodCount, f_linked, f_faultPlace, f_flowHeight, f_active, f_ticksLeft, f_outcome, f_latestResult, a_typeAbove, a_fieldSet, a_methodType, a_methodName, a_codeLength, a_bytes, a_isStart, a_heightAt, a_kindsAt, a_isWaiting, a_flowKinds, a_globals, a_objectType, a_fieldValue, a_isMarked, a_frameMethod, a_frameAt, a_frameHeight, a_slots) (nI r) (nI b)) ∧ (∀ post : Int32 → Prop, post (b01 z) → wpY_below post (g_types, g_methods, g_place, g_result, g_linked, g_bad, g_high, g_refs, g_active, g_ticks, g_code, a_typeAbove, b_ownField, b_mType, b_mName, b_mLength, b_bytes, b_starts, b_seen, b_done, b_heights, b_local, b_sure, b_objType, b_objField, b_marked, b_global, b_fMethod, b_fPc, b_fHigh, b_fLocal, b_fEntry) (yR r) (nI b)) := by
  have h5 := P.1
  cases r with
  | zero =>
    refine ⟨false, fun post J => ?_, fun post J => ?_⟩
    · have nb : ¬ (-1 : Int32) = nI b := fun z => gp_m1n (a := b) (by omega) z.symm
      unfold wpX_isOfType
      refine ev_toN0 f_typeCount f_methodCount f_linked f_faultPlace f_flowHeight f_active f_ticksLeft f_outcome f_latestResult a_typeAbove a_fieldSet a_methodType a_methodName a_codeLength a_bytes a_isStart a_heightAt a_kindsAt a_isWaiting a_flowKinds a_globals a_objectType a_fieldValue a_isMarked a_frameMethod a_frameAt a_frameHeight a_slots ⟨1, ?_⟩
      unfold wX_isOfType_9 wX_isOfType_38
      exact br_f (by decide) (br_t rfl (br_f nb J))
    · rw [yR_0]
      exact br_f (by decide) J
  | succ o =>
    have h10 := H.1
    obtain ⟨t, ht, t1, t2, -⟩ := H.2.2 o (by omega)
    obtain ⟨z, k1, k2⟩ := is_chain f_typeCount f_methodCount f_linked f_faultPlace f_flowHeight f_active f_ticksLeft f_outcome f_latestResult a_typeAbove a_fieldSet a_methodType a_methodName a_codeLength a_bytes a_isStart a_heightAt a_kindsAt a_isWaiting a_flowKinds a_globals a_objectType a_fieldValue a_isMarked a_frameMethod a_frameAt a_frameHeight a_slots g_types g_methods g_place g_result g_linked g_bad g_high g_refs g_active g_ticks g_code b_ownField b_mType b_mName b_mLength b_bytes b_starts b_seen b_done b_heights b_local b_sure b_objType b_objField b_marked b_global b_fMethod b_fPc b_fHigh b_fLocal b_fEntry P hb t ht
    refine ⟨z, fun post J => ?_, fun post J => ?_⟩
    · unfold wpX_isOfType
      refine ev_toN f_typeCount f_methodCount f_linked f_faultPlace f_flowHeight f_active f_ticksLeft f_outcome f_latestResult a_typeAbove a_fieldSet a_methodType a_methodName a_codeLength a_bytes a_isStart a_heightAt a_kindsAt a_isWaiting a_flowKinds a_globals a_objectType a_fieldValue a_isMarked a_frameMethod a_frameAt a_frameHeight a_slots (by omega) ?_
      rw [t1]
      exact ⟨t + 2, k1 post 0 (t + 2) (by omega) (by omega) J⟩
    · rw [yR_s]
      unfold wpY_below
      refine br_t (nI_pos' (by omega)) ⟨vp_in_nI (by omega) (by omega), ?_⟩
      rw [nI_clamp (by omega), t2]
      exact nm_e ⟨t + 2, k2 post _ (by omega) J⟩
/-! ===== the method of a name ===== -/
theorem ym_9 (g_types g_place g_result g_linked g_bad g_high g_refs g_active g_ticks g_code : Int32) (b_above b_ownField b_mType b_mName b_mLength b_bytes b_starts : Nat → Int32) (b_seen b_done : Nat → Int64) (b_heights b_local b_sure b_objType b_objField b_marked b_global b_fMethod b_fPc b_fHigh b_fLocal b_fEntry : Nat → Int32) {post : Int32 → Prop} {J2 : Int32 → Prop} {mc t : Nat} {y ab : Int32} (h8 : mc ≤ 8) (ht : t < 5) (ea : b_above t = ab) : ∀ d j, j + d = mc → (∀ m, fo b_mType b_mName (nI t) y d j = some m → post (nI m)) → (fo b_mType b_mName (nI t) y d j = none → J2 ab) → wY_methodOf_9 post J2 y (nI t) g_types (nI mc) g_place g_result g_linked g_bad g_high g_refs g_active g_ticks g_code b_above b_ownField b_mType b_mName b_mLength b_bytes b_starts b_seen b_done b_heights b_local b_sure b_objType b_objField b_marked b_global b_fMethod b_fPc b_fHigh b_fLocal b_fEntry (d + 1) (nI j) := by
  intro d
  induction d with
  | zero =>
    intro j hj K1 K2
    cases (show j = mc by omega)
    unfold wY_methodOf_9
    refine br_t (nI_le (by omega) (by omega)) ⟨vp_in_nI ht (by omega), ?_⟩
    rw [nI_clamp (by omega), ea]
    exact nm_e (K2 rfl)
  | succ d ih =>
    intro j hj K1 K2
    rw [fo_s] at K1 K2
    unfold wY_methodOf_9
    simp (disch := omega) only [nI_clamp, gm_clL, gm_in, gm_inL, gm_ml, gm_al, gm_la, gm_sl, nI_add, pk_mul, gm_eqL, gm_leL, gm_ltL, gm_Lle, gm_Llt, gm_eq, gm_le, gm_lt, gm_m1, forall_eq, true_and, Nat.not_lt_zero, Nat.add_sub_cancel, gm_z2, gm_z3, gm_z9, gm_z16, gm_z18, gm_z32, gm_z36, gm_z64, gm_z1152, not_true_eq_false, not_false_eq_true, false_implies, true_implies, and_true, implies_true]
    refine ⟨fun z => absurd z (by omega), fun _ => ?_⟩
    by_cases e1 : b_mType j = nI t
    · refine br_t e1 ?_
      by_cases e2 : b_mName j = y
      · rw [if_pos ⟨e1, e2⟩] at K1
        exact br_t e2 (K1 j rfl)
      · rw [if_neg (fun z => e2 z.2)] at K1 K2
        exact br_f e2 (ih (j + 1) (by omega) K1 K2)
    · rw [if_neg (fun z => e1 z.1)] at K1 K2
      exact br_f e1 (ih (j + 1) (by omega) K1 K2)
theorem fm_chain (f_typeCount f_linked f_faultPlace f_flowHeight f_active f_ticksLeft f_outcome f_latestResult : Int32) (a_typeAbove a_fieldSet a_methodType a_methodName a_codeLength a_bytes a_isStart a_heightAt a_kindsAt a_isWaiting a_flowKinds a_globals a_objectType a_fieldValue a_isMarked a_frameMethod a_frameAt a_frameHeight a_slots : Nat → Int32) (g_types g_place g_result g_linked g_bad g_high g_refs g_active g_ticks g_code : Int32) (b_ownField b_mLength b_bytes b_starts : Nat → Int32) (b_seen b_done : Nat → Int64) (b_heights b_local b_sure b_objType b_objField b_marked b_global b_fMethod b_fPc b_fHigh b_fLocal b_fEntry : Nat → Int32) {tc mc : Nat} {y : Int32} {fs own mL by' : Nat → Int32} (P : rl_P tc mc a_typeAbove fs own a_methodName mL by') : ∀ t, t < tc → ∃ r : Option Nat, (∀ m, r = some m → m < mc ∧ a_methodName m = y) ∧ (∀ (post : Int32 → Prop) up n, up + t ≤ 4 → t + 2 ≤ n → post (foE r) → wX_findMethod_8 post y f_typeCount (nI mc) f_linked f_faultPlace f_flowHeight f_active f_ticksLeft f_outcome f_latestResult a_typeAbove a_fieldSet a_methodType a_methodName a_codeLength a_bytes a_isStart a_heightAt a_kindsAt a_isWaiting a_flowKinds a_globals a_objectType a_fieldValue a_isMarked a_frameMethod a_frameAt a_frameHeight a_slots n (-1) (nI t) (nI up)) ∧ (∀ (post : Int32 → Prop) n, t + 2 ≤ n → post (foE r) → wY_methodOf_2 post y g_types (nI mc) g_place g_result g_linked g_bad g_high g_refs g_active g_ticks g_code a_typeAbove b_ownField a_methodType a_methodName b_mLength b_bytes b_starts b_seen b_done b_heights b_local b_sure b_objType b_objField b_marked b_global b_fMethod b_fPc b_fHigh b_fLocal b_fEntry n (nI t)) := by
  have h5 := P.1
  have h8 := P.2.1
  have hab := P.2.2.1
  intro t
  induction t using Nat.strongRecOn with
  | ind t ih =>
    intro ht
    have nmt : ¬ nI t = -1 := of_eq_false (gm_m1 (by omega))
    cases hf : fo a_methodType a_methodName (nI t) y mc 0 with
    | some m =>
      obtain ⟨-, m1, m2, m3⟩ := fo_some hf
      refine ⟨some m, fun m' e => by cases e; exact ⟨by omega, m3⟩, fun post up n h1 h2 J => ?_, fun post n h2 J => ?_⟩
      · obtain ⟨n, rfl⟩ : ∃ k, n = k + 2 := ⟨n - 2, by omega⟩
        unfold wX_findMethod_8
        refine br_f (nI_ge (b := 5) (by omega) (by decide)) (br_f nmt (br_t rfl (ev_findOwn f_typeCount f_linked f_faultPlace f_flowHeight f_active f_ticksLeft f_outcome f_latestResult a_typeAbove a_fieldSet a_methodType a_methodName a_codeLength a_bytes a_isStart a_heightAt a_kindsAt a_isWaiting a_flowKinds a_globals a_objectType a_fieldValue a_isMarked a_frameMethod a_frameAt a_frameHeight a_slots _ _ h8 ⟨vp_in_nI (by omega) (by omega), nm_e (nm_e ?_)⟩)))
        rw [hf]
        unfold wX_findMethod_8
        exact ⟨fun _ => J, fun _ => ⟨fun _ => J, fun _ => br_f (of_eq_false (gm_m1 (by omega))) J⟩⟩
      · obtain ⟨n, rfl⟩ : ∃ k, n = k + 1 := ⟨n - 1, by omega⟩
        unfold wY_methodOf_2
        exact br_f (nI_pos (by omega)) ⟨mc + 1, ym_9 g_types g_place g_result g_linked g_bad g_high g_refs g_active g_ticks g_code a_typeAbove b_ownField a_methodType a_methodName b_mLength b_bytes b_starts b_seen b_done b_heights b_local b_sure b_objType b_objField b_marked b_global b_fMethod b_fPc b_fHigh b_fLocal b_fEntry h8 (by omega) rfl mc 0 (by omega) (fun m' e => by rw [hf] at e; cases e; exact J) (fun e => by rw [hf] at e; exact nomatch e)⟩
    | none =>
      rcases hab t ht with ea | ⟨a, ha, ea⟩
      · refine ⟨none, (fun m' e => by exact nomatch e), fun post up n h1 h2 J => ?_, fun post n h2 J => ?_⟩
        · obtain ⟨n, rfl⟩ : ∃ k, n = k + 2 := ⟨n - 2, by omega⟩
          unfold wX_findMethod_8
          refine br_f (nI_ge (b := 5) (by omega) (by decide)) (br_f nmt (br_t rfl (ev_findOwn f_typeCount f_linked f_faultPlace f_flowHeight f_active f_ticksLeft f_outcome f_latestResult a_typeAbove a_fieldSet a_methodType a_methodName a_codeLength a_bytes a_isStart a_heightAt a_kindsAt a_isWaiting a_flowKinds a_globals a_objectType a_fieldValue a_isMarked a_frameMethod a_frameAt a_frameHeight a_slots _ _ h8 ⟨vp_in_nI (by omega) (by omega), ?_⟩)))
          rw [nI_clamp (by omega), ea, hf]
          refine nm_e (nm_e ?_)
          unfold wX_findMethod_8
          exact ⟨fun _ => J, fun _ => br_t rfl J⟩
        · obtain ⟨n, rfl⟩ : ∃ k, n = k + 2 := ⟨n - 2, by omega⟩
          unfold wY_methodOf_2
          refine br_f (nI_pos (by omega)) ⟨mc + 1, ym_9 g_types g_place g_result g_linked g_bad g_high g_refs g_active g_ticks g_code a_typeAbove b_ownField a_methodType a_methodName b_mLength b_bytes b_starts b_seen b_done b_heights b_local b_sure b_objType b_objField b_marked b_global b_fMethod b_fPc b_fHigh b_fLocal b_fEntry h8 (by omega) ea mc 0 (by omega) (fun m' e => by rw [hf] at e; exact nomatch e) (fun _ => ?_)⟩
          unfold wY_methodOf_2
          exact br_t (by decide) J
      · obtain ⟨r, k0, k1, k2⟩ := ih a ha (by omega)
        refine ⟨r, k0, fun post up n h1 h2 J => ?_, fun post n h2 J => ?_⟩
        · obtain ⟨n, rfl⟩ : ∃ k, n = k + 1 := ⟨n - 1, by omega⟩
          unfold wX_findMethod_8
          refine br_f (nI_ge (b := 5) (by omega) (by decide)) (br_f nmt (br_t rfl (ev_findOwn f_typeCount f_linked f_faultPlace f_flowHeight f_active f_ticksLeft f_outcome f_latestResult a_typeAbove a_fieldSet a_methodType a_methodName a_codeLength a_bytes a_isStart a_heightAt a_kindsAt a_isWaiting a_flowKinds a_globals a_objectType a_fieldValue a_isMarked a_frameMethod a_frameAt a_frameHeight a_slots _ _ h8 ⟨vp_in_nI (by omega) (by omega), ?_⟩)))
          rw [nI_clamp (by omega), ea, hf]
          exact nm_e (nm_r (nI_1 up) (k1 post (up + 1) n (by omega) (by omega) J))
        · obtain ⟨n, rfl⟩ : ∃ k, n = k + 1 := ⟨n - 1, by omega⟩
          unfold wY_methodOf_2
          exact br_f (nI_pos (by omega)) ⟨mc + 1, ym_9 g_types g_place g_result g_linked g_bad g_high g_refs g_active g_ticks g_code a_typeAbove b_ownField a_methodType a_methodName b_mLength b_bytes b_starts b_seen b_done b_heights b_local b_sure b_objType b_objField b_marked b_global b_fMethod b_fPc b_fHigh b_fLocal b_fEntry h8 (by omega) ea mc 0 (by omega) (fun m' e => by rw [hf] at e; exact nomatch e) (fun _ => k2 post n (by omega) J)⟩
theorem fm_find (f_typeCount f_linked f_faultPlace f_flowHeight f_active f_ticksLeft f_outcome f_latestResult : Int32) (a_typeAbove a_fieldSet a_methodType a_methodName a_codeLength a_bytes a_isStart a_heightAt a_kindsAt a_isWaiting a_flowKinds a_globals a_objectType a_fieldValue a_isMarked a_frameMethod a_frameAt a_frameHeight a_slots : Nat → Int32) (g_types g_place g_result g_linked g_bad g_high g_refs g_active g_ticks g_code : Int32) (b_ownField b_mLength b_bytes b_starts : Nat → Int32) (b_seen b_done : Nat → Int64) (b_heights b_local b_sure b_objType b_objField b_marked b_global b_fMethod b_fPc b_fHigh b_fLocal b_fEntry : Nat → Int32) {tc mc t : Nat} {y : Int32} {fs own mL by' : Nat → Int32} (P : rl_P tc mc a_typeAbove fs own a_methodName mL by') (ht : t < tc) : ∃ r : Option Nat, (∀ m, r = some m → m < mc ∧ a_methodName m = y) ∧ (∀ post : Int32 → Prop, post (foE r) → wpX_findMethod post (f_typeCount, nI mc, f_linked, f_faultPlace, f_flowHeight, f_active, f_ticksLeft, f_outcome, f_latestResult, a_typeAbove, a_fieldSet, a_methodType, a_methodName, a_codeLength, a_bytes, a_isStart, a_heightAt, a_kindsAt, a_isWaiting, a_flowKinds, a_globals, a_objectType, a_fieldValue, a_isMarked, a_frameMethod, a_frameAt, a_frameHeight, a_slots) (nI t) y) ∧ (∀ post : Int32 → Prop, post (foE r) → wpY_methodOf post (g_types, nI mc, g_place, g_result, g_linked, g_bad, g_high, g_refs, g_active, g_ticks, g_code, a_typeAbove, b_ownField, a_methodType, a_methodName, b_mLength, b_bytes, b_starts, b_seen, b_done, b_heights, b_local, b_sure, b_objType, b_objField, b_marked, b_global, b_fMethod, b_fPc, b_fHigh, b_fLocal, b_fEntry) (nI t) y) := by
  have h5 := P.1
  obtain ⟨r, k0, k1, k2⟩ := fm_chain f_typeCount f_linked f_faultPlace f_flowHeight f_active f_ticksLeft f_outcome f_latestResult a_typeAbove a_fieldSet a_methodType a_methodName a_codeLength a_bytes a_isStart a_heightAt a_kindsAt a_isWaiting a_flowKinds a_globals a_objectType a_fieldValue a_isMarked a_frameMethod a_frameAt a_frameHeight a_slots g_types g_place g_result g_linked g_bad g_high g_refs g_active g_ticks g_code b_ownField b_mLength b_bytes b_starts b_seen b_done b_heights b_local b_sure b_objType b_objField b_marked b_global b_fMethod b_fPc b_fHigh b_fLocal b_fEntry (y := y) P t ht
  exact ⟨r, k0, fun post J => ⟨t + 2, k1 post 0 _ (by omega) (by omega) J⟩, fun post J => ⟨t + 2, k2 post _ (by omega) J⟩⟩
/-! ===== roots out of frames ===== -/
theorem rt_FR {tc mc h n : Nat} {mL mN by' H K su fm fa fh sl ym yp yh yl ye fs gl ot fv yg yt yf ab own : Nat → Int32} {mF pF hF : Nat → Nat} (P : rl_P tc mc ab fs own mN mL by') (LK : rl_L tc mc mN mL by' H K su) (HH : rl_H h tc fs gl ot fv yg yt yf) (R : FR mc h n mL mN by' H K fm fa fh sl ym yp yh yl ye mF pF hF) :
    ∃ rv : Nat → Nat → Nat, RtOK n rv K su fm fa fh sl ym yp yh yl ye ∧ ∀ f s, rv f s ≤ h := by
  obtain ⟨r1, r2, r3⟩ := R
  have h10 := HH.1
  have h8 := P.2.1
  refine ⟨fun f s => @ite _ (f < n ∧ s < 4 + hF f ∧ K ((mF f * 32 + pF f) * 9 + s) = 4) (Classical.propDecidable _) (gm_n (sl (f * 9 + s))) 0, fun f hf => ?_, fun f s => ?_⟩
  · obtain ⟨a1, a2, a3, a4, a5, a6, a7, a8, a9, a10⟩ := r1 f hf
    have hL := (P.2.2.2.2.1 (mF f)).1
    have hp : ∃ hp, hp ≤ 5 ∧ hF f ≤ hp ∧ H (mF f * 32 + pF f) = nI hp := by
      by_cases e : f + 1 = n
      · exact ⟨hF f, a3, Nat.le_refl _, r3 f e⟩
      · obtain ⟨b1, b2, -⟩ := r2 f (by omega)
        exact ⟨hF f + 2, b1, by omega, b2⟩
    obtain ⟨hp, p1, p2, p3⟩ := hp
    obtain ⟨S, F, k0, k1, k2⟩ := LK _ a1
    obtain ⟨-, -, -, -, k5⟩ := k2 _ a2 hp p1 p3
    refine ⟨mF f, pF f, hF f, by omega, by omega, a3, a4, a5, a6, a7, a8, a9, fun s hs => ⟨k5 s (by omega), fun z => ?_, fun z => if_neg (fun w => z w.2.2)⟩, fun s hs => if_neg (fun w => by omega)⟩
    have hv := a10 s hs
    have e4 : gm_n (K ((mF f * 32 + pF f) * 9 + s)) = 4 := by rw [z]; rfl
    obtain ⟨r, c1, c2, c3⟩ := hv.1 e4
    dsimp only
    rw [if_pos ⟨hf, hs, z⟩, c2, gp_nI (by omega)]
    exact ⟨rfl, c3, by omega⟩
  · dsimp only
    split
    · rename_i z
      obtain ⟨z1, z2, z3⟩ := z
      obtain ⟨a1, a2, a3, a4, a5, a6, a7, a8, a9, a10⟩ := r1 f z1
      have e4 : gm_n (K ((mF f * 32 + pF f) * 9 + s)) = 4 := by rw [z3]; rfl
      obtain ⟨r, c1, c2, c3⟩ := (a10 s z2).1 e4
      rw [c2, gp_nI (by omega)]
      exact c1
    · omega
/-! ===== a field written ===== -/
theorem rl_Hp {h tc o t f : Nat} {fs gl ot fv yg yt yf : Nat → Int32} {x y : Int32} (H : rl_H h tc fs gl ot fv yg yt yf) (ho : o < h) (et : ot (o + 1) = nI t) (ht : t < tc) (h5 : tc ≤ 5) (hf : f < 16) (hb : bt (fs t) f = true) (v : VRm h (is_vk f) x y) : rl_H h tc fs gl ot (upd fv ((o + 1) * 16 + f) x) yg yt (upd yf (o * 16 + f) y) := by
  obtain ⟨a, b, c⟩ := H
  refine ⟨a, b, fun o' ho' => ?_⟩
  obtain ⟨t', ht', t1, t2, f1, f2⟩ := c o' ho'
  refine ⟨t', ht', t1, t2, fun g hg => ?_, fun g h8 h16 => ?_⟩
  · by_cases e : o' = o ∧ g = f
    · obtain ⟨rfl, rfl⟩ := e
      rw [pk_us, pk_us]
      exact v.2 (if_pos hg)
    · rw [pk_un (by omega), pk_un (by omega)]; exact f1 g hg
  · by_cases e : o' = o ∧ g = f
    · obtain ⟨rfl, rfl⟩ := e
      rw [pk_us, pk_us]
      obtain ⟨r, hr, e1, e2⟩ := v.1 (if_neg (by omega))
      refine ⟨r, hr, e1, e2, fun z => ?_⟩
      rw [t1] at et
      have := gp_inj (by omega) (by omega) et
      subst this
      rw [hb] at z
      exact nomatch z
    · rw [pk_un (by omega), pk_un (by omega)]; exact f2 g h8 h16
/-- a field read -/
theorem fd_v {h tc o t f : Nat} {fs gl ot fv yg yt yf : Nat → Int32} (H : rl_H h tc fs gl ot fv yg yt yf) (ho : o < h) (hf : f < 16) : VRm h (is_vk f) (fv ((o + 1) * 16 + f)) (yf (o * 16 + f)) := by
  obtain ⟨t', ht', t1, t2, f1, f2⟩ := H.2.2 o ho
  unfold is_vk
  by_cases h8 : f < 8
  · rw [if_pos h8, f1 f h8]; exact v_i
  · rw [if_neg h8]
    obtain ⟨r, hr, e1, e2, -⟩ := f2 f (by omega) hf
    rw [e1, e2]; exact v_r hr
