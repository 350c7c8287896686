/-! ===== ranges of an argument ===== -/
theorem gq_rng (x : Int32) {n : Nat} (hn : n < 2 ^ 31) : x < 0 ∨ (¬ x < 0 ∧ nI n ≤ x) ∨ ∃ j : Nat, j < n ∧ x = nI j := by
  rcases pk_ix x hn with z | z | z
  · exact Or.inl z
  · refine Or.inr (Or.inl ⟨?_, z⟩)
    rw [Int32.not_lt]
    exact Int32.le_trans (nI_pos' hn) z
  · exact Or.inr (Or.inr z)
theorem gq_nle {x : Int32} {n : Nat} (hn : n + 1 < 2 ^ 31) (h : nI (n + 1) ≤ x) : ¬ x ≤ nI n := by
  rw [Int32.le_iff_toInt_le, nI_toInt hn] at h
  rw [Int32.le_iff_toInt_le, nI_toInt (by omega)]
  omega
theorem gq_lt {x : Int32} {n : Nat} (hn : n + 1 < 2 ^ 31) (h : nI (n + 1) ≤ x) : nI n < x := by
  rw [Int32.le_iff_toInt_le, nI_toInt hn] at h
  rw [Int32.lt_iff_toInt_lt, nI_toInt (by omega)]
  omega
theorem ev_isName {post : Int32 → Prop} {n : Nat} (hn : n < 16) (J : post 1) : wpX_isName post (nI n) := br_f (nI_pos (by omega)) (br_f (nI_ge (b := 16) hn (by decide)) J)
theorem ev_isNameF {post : Int32 → Prop} {x : Int32} (h : x < 0 ∨ (¬ x < 0 ∧ nI 16 ≤ x)) (J : post 0) : wpX_isName post x := by
  rcases h with h | ⟨h, h2⟩
  · exact br_t h J
  · exact br_f h (br_t h2 J)
theorem ev_isGlobal {post : Int32 → Prop} {n : Nat} (hn : n < 2) (J : post 1) : wpX_isGlobal post (nI n) := br_f (nI_pos (by omega)) (br_f (nI_ge (b := 2) hn (by decide)) J)
theorem ev_isGlobalF {post : Int32 → Prop} {x : Int32} (h : x < 0 ∨ (¬ x < 0 ∧ nI 2 ≤ x)) (J : post 0) : wpX_isGlobal post x := by
  rcases h with h | ⟨h, h2⟩
  · exact br_t h J
  · exact br_f h (br_t h2 J)
theorem ev_isType (f_methodCount f_linked f_faultPlace f_flowHeight f_active f_ticksLeft f_outcome f_latestResult : Int32) (a_typeAbove a_fieldSet a_methodType a_methodName a_codeLength a_bytes a_isStart a_heightAt a_kindsAt a_isWaiting a_flowKinds a_globals a_objectType a_fieldValue a_isMarked a_frameMethod a_frameAt a_frameHeight a_slots : Nat → Int32) {post : Int32 → Prop} {n tc : Nat} (hn : n < tc) (ht : tc ≤ 5) (J : post 1) : wpX_isType post (nI tc, f_methodCount, f_linked, f_faultPlace, f_flowHeight, f_active, f_ticksLeft, f_outcome, f_latestResult, a_typeAbove, a_fieldSet, a_methodType, a_methodName, a_codeLength, a_bytes, a_isStart, a_heightAt, a_kindsAt, a_isWaiting, a_flowKinds, a_globals, a_objectType, a_fieldValue, a_isMarked, a_frameMethod, a_frameAt, a_frameHeight, a_slots) (nI n) := br_f (nI_pos (by omega)) (br_f (nI_ge hn (by omega)) J)
theorem ev_isTypeF (f_methodCount f_linked f_faultPlace f_flowHeight f_active f_ticksLeft f_outcome f_latestResult : Int32) (a_typeAbove a_fieldSet a_methodType a_methodName a_codeLength a_bytes a_isStart a_heightAt a_kindsAt a_isWaiting a_flowKinds a_globals a_objectType a_fieldValue a_isMarked a_frameMethod a_frameAt a_frameHeight a_slots : Nat → Int32) {post : Int32 → Prop} {x : Int32} {tc : Nat} (h : x < 0 ∨ (¬ x < 0 ∧ nI tc ≤ x)) (J : post 0) : wpX_isType post (nI tc, f_methodCount, f_linked, f_faultPlace, f_flowHeight, f_active, f_ticksLeft, f_outcome, f_latestResult, a_typeAbove, a_fieldSet, a_methodType, a_methodName, a_codeLength, a_bytes, a_isStart, a_heightAt, a_kindsAt, a_isWaiting, a_flowKinds, a_globals, a_objectType, a_fieldValue, a_isMarked, a_frameMethod, a_frameAt, a_frameHeight, a_slots) x := by
  rcases h with h | ⟨h, h2⟩
  · exact br_t h J
  · exact br_f h (br_t h2 J)
/-! ===== field ===== -/
theorem ev_yfl (g_methods g_place g_result g_linked g_bad g_high g_refs g_active g_ticks g_code : Int32) (b_above b_ownField b_mType b_mName b_mLength b_bytes b_starts : Nat → Int32) (b_seen b_done : Nat → Int64) (b_heights b_local b_sure b_objType b_objField b_marked b_global b_fMethod b_fPc b_fHigh b_fLocal b_fEntry : Nat → Int32) {post : Int32 → SY → Prop} {tc mc f : Nat} {fs mN mL by' : Nat → Int32} (P : rl_P (tc + 1) mc b_above fs b_ownField mN mL by') (hf : f < 16)
    (J : (cf (fs tc) 16 = 4 ∨ bt (fs tc) f = true → post 0 (nI (tc + 1), g_methods, g_place, g_result, g_linked, g_bad, g_high, g_refs, g_active, g_ticks, g_code, b_above, b_ownField, b_mType, b_mName, b_mLength, b_bytes, b_starts, b_seen, b_done, b_heights, b_local, b_sure, b_objType, b_objField, b_marked, b_global, b_fMethod, b_fPc, b_fHigh, b_fLocal, b_fEntry)) ∧ (cf (fs tc) 16 ≠ 4 → bt (fs tc) f = false → post 1 (nI (tc + 1), g_methods, g_place, g_result, g_linked, g_bad, g_high, g_refs, g_active, g_ticks, g_code, b_above, upd b_ownField (tc * 16 + f) 1, b_mType, b_mName, b_mLength, b_bytes, b_starts, b_seen, b_done, b_heights, b_local, b_sure, b_objType, b_objField, b_marked, b_global, b_fMethod, b_fPc, b_fHigh, b_fLocal, b_fEntry))) :
    ∀ d j, j + d = 16 → wY_field_30 post (nI f) (nI (tc + 1)) g_methods g_place g_result g_linked g_bad g_high g_refs g_active g_ticks g_code b_above b_ownField b_mType b_mName b_mLength b_bytes b_starts b_seen b_done b_heights b_local b_sure b_objType b_objField b_marked b_global b_fMethod b_fPc b_fHigh b_fLocal b_fEntry (d + 1) (nI (cf (fs tc) j)) (nI j) := by
  have h5 := P.1
  intro d
  induction d with
  | zero =>
    intro j hj
    cases (show j = 16 by omega)
    have hc := cf_le (fs tc) 16
    unfold wY_field_30
    simp (disch := omega) only [nI_clamp, gm_clL, gm_in, gm_inL, gm_ml, gm_al, gm_la, gm_sl, nI_add, pk_mul, gm_eqL, gm_leL, gm_ltL, gm_Lle, gm_Llt, gm_eq, gm_le, gm_lt, gm_m1, forall_eq, true_and, Nat.not_lt_zero, Nat.add_sub_cancel, gm_z2, gm_z3, gm_z9, gm_z16, gm_z18, gm_z32, gm_z36, gm_z64, gm_z1152, not_true_eq_false, not_false_eq_true, false_implies, true_implies, and_true, implies_true, nI_pred]
    refine ⟨fun _ => ?_, fun z => absurd (by omega) z⟩
    refine ⟨fun h4 => J.1 (Or.inl h4), fun h4 => ev_yhas (nI (tc + 1)) g_methods g_place g_result g_linked g_bad g_high g_refs g_active g_ticks g_code b_above b_ownField b_mType b_mName b_mLength b_bytes b_starts b_seen b_done b_heights b_local b_sure b_objType b_objField b_marked b_global b_fMethod b_fPc b_fHigh b_fLocal b_fEntry P hf (by omega) ?_⟩
    cases hb : bt (fs tc) f
    · exact br_t rfl (by rw [gm_nb1]; exact J.2 h4 hb)
    · exact br_f (by decide) (J.1 (Or.inr hb))
  | succ d ih =>
    intro j hj
    have h := ih (j + 1) (by omega)
    have hc := cf_le (fs tc) j
    unfold wY_field_30
    rw [nI_pred]
    refine br_f (nI_ge (b := 16) (by omega) (by decide)) (ev_yhas (nI (tc + 1)) g_methods g_place g_result g_linked g_bad g_high g_refs g_active g_ticks g_code b_above b_ownField b_mType b_mName b_mLength b_bytes b_starts b_seen b_done b_heights b_local b_sure b_objType b_objField b_marked b_global b_fMethod b_fPc b_fHigh b_fLocal b_fEntry P (by omega) (by omega) ?_)
    unfold cf at h
    cases hb : bt (fs tc) j
    · rw [hb] at h
      exact br_t rfl (nm_r (nI_1 j) h)
    · rw [hb] at h
      exact br_f (by decide) (nm_r (nI_1 _) (nm_r (nI_1 j) h))
theorem rl_Pf {tc mc f : Nat} {ab fs own mN mL by' : Nat → Int32} (P : rl_P (tc + 1) mc ab fs own mN mL by') (hf : f < 16) : rl_P (tc + 1) mc ab (upd fs tc (fs tc ||| ((1 : Int32) <<< (nI f &&& 31)))) (upd own (tc * 16 + f) 1) mN mL by' := by
  obtain ⟨a1, a2, a3, a4, a5, a6, a7⟩ := P
  refine ⟨a1, a2, a3, a4, a5, a6, fun t h g hg => ?_⟩
  have a := a7 t h g hg
  by_cases e : t = tc
  · subst e
    rw [pk_us, gm_set _ (by omega) (by omega), Bool.or_eq_true, a]
    by_cases e2 : g = f
    · subst e2
      rw [pk_us]
      exact ⟨fun _ => Or.inl (by decide), fun _ => Or.inr (by simp)⟩
    · rw [pk_un (by omega)]
      constructor
      · rintro ((z | ⟨a, ha, e2, hb⟩) | z)
        · exact Or.inl z
        · exact Or.inr ⟨a, ha, e2, by rw [pk_un (by omega)]; exact hb⟩
        · exact absurd (of_decide_eq_true z) e2
      · rintro (z | ⟨a, ha, e2, hb⟩)
        · exact Or.inl (Or.inl z)
        · rw [pk_un (by omega)] at hb
          exact Or.inl (Or.inr ⟨a, ha, e2, hb⟩)
  · rw [pk_un e, pk_un (by omega), a]
    constructor
    · rintro (z | ⟨a, ha, e2, hb⟩)
      · exact Or.inl z
      · exact Or.inr ⟨a, ha, e2, by rw [pk_un (by omega)]; exact hb⟩
    · rintro (z | ⟨a, ha, e2, hb⟩)
      · exact Or.inl z
      · rw [pk_un (by omega)] at hb
        exact Or.inr ⟨a, ha, e2, hb⟩
theorem i_vc_field {k : Nat} {u : SX} {v : SY} (I : i_Rel k u v) (hk : k + 4 ≤ 2048) (v1 : Int32) : wpX_field (fun r u' => wpY_field (fun r' v' => r' = r ∧ i_Rel (k + 4) u' v') v v1) u v1 := by
  obtain ⟨f_typeCount, f_methodCount, f_linked, f_faultPlace, f_flowHeight, f_active, f_ticksLeft, f_outcome, f_latestResult, a_typeAbove, a_fieldSet, a_methodType, a_methodName, a_codeLength, a_bytes, a_isStart, a_heightAt, a_kindsAt, a_isWaiting, a_flowKinds, a_globals, a_objectType, a_fieldValue, a_isMarked, a_frameMethod, a_frameAt, a_frameHeight, a_slots⟩ := u
  obtain ⟨g_types, g_methods, g_place, g_result, g_linked, g_bad, g_high, g_refs, g_active, g_ticks, g_code, b_above, b_ownField, b_mType, b_mName, b_mLength, b_bytes, b_starts, b_seen, b_done, b_heights, b_local, b_sure, b_objType, b_objField, b_marked, b_global, b_fMethod, b_fPc, b_fHigh, b_fLocal, b_fEntry⟩ := v
  have I' := I
  obtain ⟨tc, mc, h, rfl, rfl, rfl, rfl, rfl, hl, rfl, hfp, rfl, rfl, rfl, rfl, rfl, rfl, rfl, P, KB, H, hh, hL⟩ := I
  unfold wpX_field
  have h5 := P.1
  rcases hl with rfl | rfl
  · have h0 : h = 0 := by
      rcases Nat.eq_zero_or_pos h with z | z
      · exact z
      · exact absurd rfl (hh z)
    refine br_t rfl ?_
    rcases Nat.eq_zero_or_pos tc with rfl | hp
    · exact br_t rfl (by unfold wpY_field; exact br_t rfl (br_t rfl ⟨rfl, I'⟩))
    · obtain ⟨tc, rfl⟩ : ∃ c, tc = c + 1 := ⟨tc - 1, by omega⟩
      have n0 : ¬ nI (tc + 1) = 0 := nI_ne0 (by omega) (by omega)
      refine br_f n0 ?_
      rcases gq_rng v1 (n := 16) (by omega) with z | z | ⟨f, hf, rfl⟩
      · refine ev_isNameF (Or.inl z) (br_t rfl ?_)
        unfold wpY_field
        exact br_t rfl (br_f n0 (br_t z ⟨rfl, I'⟩))
      · refine ev_isNameF (Or.inr z) (br_t rfl ?_)
        unfold wpY_field
        exact br_t rfl (br_f n0 (br_f z.1 (br_f (gq_nle (n := 15) (by omega) z.2) ⟨rfl, I'⟩)))
      · have y0 : ∀ post : Int32 → SY → Prop, (cf (a_fieldSet tc) 16 = 4 ∨ bt (a_fieldSet tc) f = true → post 0 (nI (tc + 1), nI mc, f_faultPlace, f_latestResult, 0, g_bad, g_high, g_refs, g_active, g_ticks, g_code, a_typeAbove, b_ownField, a_methodType, a_methodName, a_codeLength, a_bytes, b_starts, b_seen, b_done, b_heights, b_local, b_sure, b_objType, b_objField, b_marked, b_global, b_fMethod, b_fPc, b_fHigh, b_fLocal, b_fEntry)) ∧ (cf (a_fieldSet tc) 16 ≠ 4 → bt (a_fieldSet tc) f = false → post 1 (nI (tc + 1), nI mc, f_faultPlace, f_latestResult, 0, g_bad, g_high, g_refs, g_active, g_ticks, g_code, a_typeAbove, upd b_ownField (tc * 16 + f) 1, a_methodType, a_methodName, a_codeLength, a_bytes, b_starts, b_seen, b_done, b_heights, b_local, b_sure, b_objType, b_objField, b_marked, b_global, b_fMethod, b_fPc, b_fHigh, b_fLocal, b_fEntry)) → wpY_field post (nI (tc + 1), nI mc, f_faultPlace, f_latestResult, 0, g_bad, g_high, g_refs, g_active, g_ticks, g_code, a_typeAbove, b_ownField, a_methodType, a_methodName, a_codeLength, a_bytes, b_starts, b_seen, b_done, b_heights, b_local, b_sure, b_objType, b_objField, b_marked, b_global, b_fMethod, b_fPc, b_fHigh, b_fLocal, b_fEntry) (nI f) := by
          intro post J
          unfold wpY_field
          exact br_t rfl (br_f n0 (br_f (nI_pos (by omega)) (br_t (nI_le (b := 15) (by omega) (by decide)) ⟨17, ev_yfl (nI mc) f_faultPlace f_latestResult 0 g_bad g_high g_refs g_active g_ticks g_code a_typeAbove b_ownField a_methodType a_methodName a_codeLength a_bytes b_starts b_seen b_done b_heights b_local b_sure b_objType b_objField b_marked b_global b_fMethod b_fPc b_fHigh b_fLocal b_fEntry P hf J 16 0 rfl⟩)))
        have hc := cf_le (a_fieldSet tc) 16
        refine ev_isName hf (br_f (by decide) (nm_r (nI_pred tc) (ev_hasField (nI (tc + 1)) (nI mc) 0 f_faultPlace f_flowHeight 0 f_ticksLeft f_outcome f_latestResult a_typeAbove a_fieldSet a_methodType a_methodName a_codeLength a_bytes a_isStart a_heightAt a_kindsAt a_isWaiting a_flowKinds a_globals a_objectType a_fieldValue a_isMarked a_frameMethod a_frameAt a_frameHeight a_slots (by omega) hf ?_)))
        cases hb : bt (a_fieldSet tc) f
        · refine br_t rfl (ev_countFields (nI (tc + 1)) (nI mc) 0 f_faultPlace f_flowHeight 0 f_ticksLeft f_outcome f_latestResult a_typeAbove a_fieldSet a_methodType a_methodName a_codeLength a_bytes a_isStart a_heightAt a_kindsAt a_isWaiting a_flowKinds a_globals a_objectType a_fieldValue a_isMarked a_frameMethod a_frameAt a_frameHeight a_slots (by omega) (pk_eq (cf (a_fieldSet tc) 16) 4 (fun e => y0 _ ⟨fun _ => ⟨rfl, I'⟩, fun z => absurd e z⟩) (fun e => ?_)))
          refine ⟨vp_in_nI (by omega) (by omega), vp_in_nI (by omega) (by omega), nm_e (y0 _ ⟨fun z => ?_, fun _ _ => ⟨rfl, tc + 1, mc, 0, rfl, rfl, rfl, rfl, rfl, Or.inl rfl, rfl, hfp, rfl, rfl, rfl, rfl, rfl, rfl, rfl, ?_, KB, rl_H0 H h0, fun z => absurd z (by omega), fun z => absurd rfl z⟩⟩)⟩
          · rcases z with z | z
            · exact absurd z e
            · rw [hb] at z; exact absurd z (by decide)
          · rw [nI_clamp (by omega)]
            exact rl_Pf P hf
        · exact br_f (by decide) (y0 _ ⟨fun _ => ⟨rfl, I'⟩, fun _ z => by rw [hb] at z; exact absurd z (by decide)⟩)
  · refine br_f (by decide) ?_
    unfold wpY_field
    exact br_f (by decide) ⟨rfl, I'⟩
/-! ===== code ===== -/
theorem rl_Pc {tc mc m l b : Nat} {ab fs own mN mL by' : Nat → Int32} (P : rl_P tc mc ab fs own mN mL by') (hb : b < 256) (hl : l < 32) (i : Nat) : rl_P tc mc ab fs own mN (upd mL m (nI (l + 1))) (upd by' i (nI b)) := by
  obtain ⟨a1, a2, a3, a4, a5, a6, a7⟩ := P
  refine ⟨a1, a2, a3, a4, fun m' => ?_, fun i' => ?_, a7⟩
  · by_cases e : m' = m
    · subst e; rw [pk_us, gp_nI (by omega)]; exact ⟨by omega, rfl⟩
    · rw [pk_un e]; exact a5 m'
  · by_cases e : i' = i
    · subst e; rw [pk_us, gp_nI (by omega)]; exact ⟨by omega, rfl⟩
    · rw [pk_un e]; exact a6 i'
theorem i_vc_code {k : Nat} {u : SX} {v : SY} (I : i_Rel k u v) (hk : k + 4 ≤ 2048) (v1 : Int32) : wpX_code (fun r u' => wpY_code (fun r' v' => r' = r ∧ i_Rel (k + 4) u' v') v v1) u v1 := by
  obtain ⟨f_typeCount, f_methodCount, f_linked, f_faultPlace, f_flowHeight, f_active, f_ticksLeft, f_outcome, f_latestResult, a_typeAbove, a_fieldSet, a_methodType, a_methodName, a_codeLength, a_bytes, a_isStart, a_heightAt, a_kindsAt, a_isWaiting, a_flowKinds, a_globals, a_objectType, a_fieldValue, a_isMarked, a_frameMethod, a_frameAt, a_frameHeight, a_slots⟩ := u
  obtain ⟨g_types, g_methods, g_place, g_result, g_linked, g_bad, g_high, g_refs, g_active, g_ticks, g_code, b_above, b_ownField, b_mType, b_mName, b_mLength, b_bytes, b_starts, b_seen, b_done, b_heights, b_local, b_sure, b_objType, b_objField, b_marked, b_global, b_fMethod, b_fPc, b_fHigh, b_fLocal, b_fEntry⟩ := v
  have I' := I
  obtain ⟨tc, mc, h, rfl, rfl, rfl, rfl, rfl, hl, rfl, hfp, rfl, rfl, rfl, rfl, rfl, rfl, rfl, P, KB, H, hh, hL⟩ := I
  unfold wpX_code
  have h5 := P.1
  have h8 := P.2.1
  rcases hl with rfl | rfl
  · have h0 : h = 0 := by
      rcases Nat.eq_zero_or_pos h with z | z
      · exact z
      · exact absurd rfl (hh z)
    refine br_t rfl ?_
    rcases Nat.eq_zero_or_pos mc with rfl | hp
    · exact br_t rfl (by unfold wpY_code; exact br_t rfl (br_t rfl ⟨rfl, I'⟩))
    · obtain ⟨mc, rfl⟩ : ∃ c, mc = c + 1 := ⟨mc - 1, by omega⟩
      have n0 : ¬ nI (mc + 1) = 0 := nI_ne0 (by omega) (by omega)
      refine br_f n0 ?_
      rcases gq_rng v1 (n := 256) (by omega) with z | z | ⟨b, hb, rfl⟩
      · refine br_t z ?_
        unfold wpY_code
        exact br_t rfl (br_f n0 (br_t z ⟨rfl, I'⟩))
      · refine br_f z.1 (br_f (Int32.not_lt.mpr z.2) ?_)
        unfold wpY_code
        exact br_t rfl (br_f n0 (br_f z.1 (br_t (gq_lt (n := 255) (by omega) z.2) ⟨rfl, I'⟩)))
      · obtain ⟨hl1, hl2⟩ := P.2.2.2.2.1 mc
        have a : ¬ nI b < 0 := nI_pos (by omega)
        have a2 : ¬ (255 : Int32) < nI b := nI_nlt (a := 255) (by omega) (by omega)
        refine br_f a (br_t (nI_lt (b := 256) hb (by decide)) (nm_r (nI_pred mc) ⟨vp_in_nI (by omega) (by omega), ?_⟩))
        rw [nI_clamp (by omega), hl2]
        generalize gm_n (a_codeLength mc) = l at hl1 hl2
        refine nm_e (pk_eq l 32 (fun e => ?_) (fun e => ?_))
        · subst e
          unfold wpY_code
          dsimp only
          rw [nI_pred, nI_clamp (by omega), hl2]
          exact br_t rfl (br_f n0 (br_f a (br_f a2 ⟨vp_in_nI (by omega) (by omega), br_t rfl ⟨rfl, I'⟩⟩)))
        · simp (disch := omega) only [nI_clamp, gm_clL, gm_in, gm_inL, gm_ml, gm_al, gm_la, gm_sl, nI_add, pk_mul, gm_eqL, gm_leL, gm_ltL, gm_Lle, gm_Llt, gm_eq, gm_le, gm_lt, gm_m1, forall_eq, true_and, Nat.not_lt_zero, Nat.add_sub_cancel, gm_z2, gm_z3, gm_z9, gm_z16, gm_z18, gm_z32, gm_z36, gm_z64, gm_z1152, not_true_eq_false, not_false_eq_true, false_implies, true_implies, and_true, implies_true]
          unfold wpY_code
          dsimp only
          rw [nI_pred, nI_clamp (by omega), hl2]
          refine br_t rfl (br_f n0 (br_f a (br_f a2 ⟨vp_in_nI (by omega) (by omega), br_f (by rw [gm_eqL (by omega) (by omega)]; exact e) ?_⟩)))
          simp (disch := omega) only [nI_clamp, gm_clL, gm_in, gm_inL, gm_ml, gm_al, gm_la, gm_sl, nI_add, pk_mul, gm_eqL, gm_leL, gm_ltL, gm_Lle, gm_Llt, gm_eq, gm_le, gm_lt, gm_m1, forall_eq, true_and, Nat.not_lt_zero, Nat.add_sub_cancel, gm_z2, gm_z3, gm_z9, gm_z16, gm_z18, gm_z32, gm_z36, gm_z64, gm_z1152, not_true_eq_false, not_false_eq_true, false_implies, true_implies, and_true, implies_true]
          exact ⟨tc, mc + 1, 0, rfl, rfl, rfl, rfl, rfl, Or.inl rfl, rfl, hfp, rfl, rfl, rfl, rfl, rfl, rfl, rfl, rl_Pc P hb (by omega) _, KB, rl_H0 H h0, fun z => absurd z (by omega), fun z => absurd rfl z⟩
  · refine br_f (by decide) ?_
    unfold wpY_code
    exact br_f (by decide) ⟨rfl, I'⟩
