theorem gp_n0 : gm_n 0 = 0 := by decide
theorem gp_nI {n : Nat} (h : n < 2 ^ 31) : gm_n (nI n) = n := nI_clamp h
theorem i_vc0 : wpX_init (fun u => wpY_init (fun v => i_Rel 0 u v)) := by
  unfold wpX_init wpY_init
  intro g1 e1 g2 e2
  subst e1 e2
  refine ⟨0, 0, 0, rfl, rfl, rfl, rfl, rfl, Or.inl rfl, rfl, fun h => absurd rfl h, rfl, rfl, rfl, rfl, rfl, rfl, rfl, ?_, fun i => ⟨0, by omega, rfl⟩, ?_, fun h => absurd h (by omega), fun h => absurd rfl h⟩
  · refine ⟨by omega, by omega, fun t h => absurd h (by omega), fun m => ⟨?_, ?_⟩, fun m => ⟨?_, ?_⟩, fun m => ⟨?_, ?_⟩, fun t h => absurd h (by omega)⟩
    · show gm_n 0 < 16; decide
    · show (0 : Int32) = nI (gm_n 0); decide
    · show gm_n 0 ≤ 32; decide
    · show (0 : Int32) = nI (gm_n 0); decide
    · show gm_n 0 < 256; decide
    · show (0 : Int32) = nI (gm_n 0); decide
  · refine ⟨by omega, fun g hg => ⟨0, by omega, rfl, ?_⟩, fun o h => absurd h (by omega)⟩
    rcases (by omega : g = 0 ∨ g = 1) with rfl | rfl
    · decide
    · decide
theorem i_vc_place {k : Nat} {u : SX} {v : SY} (I : i_Rel k u v) (hk : k + 4 ≤ 2048) : wpX_place (fun r => wpY_place (fun r' => r' = r ∧ i_Rel (k + 4) u v) v) u := by
  obtain ⟨f_typeCount, f_methodCount, f_linked, f_faultPlace, f_flowHeight, f_active, f_ticksLeft, f_outcome, f_latestResult, a_typeAbove, a_fieldSet, a_methodType, a_methodName, a_codeLength, a_bytes, a_isStart, a_heightAt, a_kindsAt, a_isWaiting, a_flowKinds, a_globals, a_objectType, a_fieldValue, a_isMarked, a_frameMethod, a_frameAt, a_frameHeight, a_slots⟩ := u
  obtain ⟨g_types, g_methods, g_place, g_result, g_linked, g_bad, g_high, g_refs, g_active, g_ticks, g_code, b_above, b_ownField, b_mType, b_mName, b_mLength, b_bytes, b_starts, b_seen, b_done, b_heights, b_local, b_sure, b_objType, b_objField, b_marked, b_global, b_fMethod, b_fPc, b_fHigh, b_fLocal, b_fEntry⟩ := v
  have I' := I
  obtain ⟨tc, mc, h, -, -, -, -, -, -, hp, -⟩ := I
  exact ⟨hp.symm, I'⟩
theorem i_vc_result {k : Nat} {u : SX} {v : SY} (I : i_Rel k u v) (hk : k + 4 ≤ 2048) : wpX_result (fun r => wpY_result (fun r' => r' = r ∧ i_Rel (k + 4) u v) v) u := by
  obtain ⟨f_typeCount, f_methodCount, f_linked, f_faultPlace, f_flowHeight, f_active, f_ticksLeft, f_outcome, f_latestResult, a_typeAbove, a_fieldSet, a_methodType, a_methodName, a_codeLength, a_bytes, a_isStart, a_heightAt, a_kindsAt, a_isWaiting, a_flowKinds, a_globals, a_objectType, a_fieldValue, a_isMarked, a_frameMethod, a_frameAt, a_frameHeight, a_slots⟩ := u
  obtain ⟨g_types, g_methods, g_place, g_result, g_linked, g_bad, g_high, g_refs, g_active, g_ticks, g_code, b_above, b_ownField, b_mType, b_mName, b_mLength, b_bytes, b_starts, b_seen, b_done, b_heights, b_local, b_sure, b_objType, b_objField, b_marked, b_global, b_fMethod, b_fPc, b_fHigh, b_fLocal, b_fEntry⟩ := v
  have I' := I
  obtain ⟨tc, mc, h, -, -, -, -, -, -, -, -, hp, -⟩ := I
  exact ⟨hp.symm, I'⟩
/-! ===== type ===== -/
theorem ev_ytl (g_types g_methods g_place g_result g_linked g_bad g_high g_refs g_active g_ticks g_code : Int32) (b_above b_ownField b_mType b_mName b_mLength b_bytes b_starts : Nat → Int32) (b_seen b_done : Nat → Int64) (b_heights b_local b_sure b_objType b_objField b_marked b_global b_fMethod b_fPc b_fHigh b_fLocal b_fEntry : Nat → Int32) {tc : Nat} (ht : tc < 5) (e : g_types = nI tc) : ∀ d j, j + d = 16 → ∀ own : Nat → Int32, ∃ own' : Nat → Int32, (∀ i, i < tc * 16 + j → own' i = own i) ∧ (∀ f, j ≤ f → f < 16 → own' (tc * 16 + f) = 0) ∧ ∀ post : Int32 → SY → Prop, post (nI tc) (nI (tc + 1), g_methods, g_place, g_result, g_linked, g_bad, g_high, g_refs, g_active, g_ticks, g_code, b_above, own', b_mType, b_mName, b_mLength, b_bytes, b_starts, b_seen, b_done, b_heights, b_local, b_sure, b_objType, b_objField, b_marked, b_global, b_fMethod, b_fPc, b_fHigh, b_fLocal, b_fEntry) → wY_type_42 post g_types g_methods g_place g_result g_linked g_bad g_high g_refs g_active g_ticks g_code (d + 1) (nI j) b_above own b_mType b_mName b_mLength b_bytes b_starts b_seen b_done b_heights b_local b_sure b_objType b_objField b_marked b_global b_fMethod b_fPc b_fHigh b_fLocal b_fEntry := by
  subst e
  intro d
  induction d with
  | zero =>
    intro j hj own
    refine ⟨own, fun _ _ => rfl, fun f h1 h2 => absurd h2 (by omega), fun post J => ?_⟩
    unfold wY_type_42
    simp (disch := omega) only [nI_clamp, gm_clL, gm_in, gm_inL, gm_ml, gm_al, gm_la, gm_sl, nI_add, pk_mul, gm_eqL, gm_leL, gm_ltL, gm_Lle, gm_Llt, gm_eq, gm_le, gm_lt, gm_m1, forall_eq, true_and, Nat.not_lt_zero, Nat.add_sub_cancel, gm_z2, gm_z3, gm_z9, gm_z16, gm_z18, gm_z32, gm_z36, gm_z64, gm_z1152, not_true_eq_false, not_false_eq_true, false_implies, true_implies, and_true, implies_true]
    refine ⟨fun _ => ?_, fun z => absurd (show 16 ≤ j by omega) z⟩
    exact J
  | succ d ih =>
    intro j hj own
    obtain ⟨own', h1, h2, h3⟩ := ih (j + 1) (by omega) (upd own (tc * 16 + j) 0)
    refine ⟨own', fun i hi => ?_, fun f hf hf2 => ?_, fun post J => ?_⟩
    · rw [h1 i (by omega), pk_un (by omega)]
    · by_cases e : f = j
      · subst e
        rw [h1 _ (by omega), pk_us]
      · exact h2 f (by omega) hf2
    · unfold wY_type_42
      simp (disch := omega) only [nI_clamp, gm_clL, gm_in, gm_inL, gm_ml, gm_al, gm_la, gm_sl, nI_add, pk_mul, gm_eqL, gm_leL, gm_ltL, gm_Lle, gm_Llt, gm_eq, gm_le, gm_lt, gm_m1, forall_eq, true_and, Nat.not_lt_zero, Nat.add_sub_cancel, gm_z2, gm_z3, gm_z9, gm_z16, gm_z18, gm_z32, gm_z36, gm_z64, gm_z1152, not_true_eq_false, not_false_eq_true, false_implies, true_implies, and_true, implies_true, gm_nb0]
      exact ⟨fun z => absurd z (by omega), fun _ => h3 post J⟩
theorem rl_Pt {tc mc : Nat} {ab fs own mN mL by' own' : Nat → Int32} {x fx : Int32} (P : rl_P tc mc ab fs own mN mL by') (ht : tc < 5) (hx : x = -1 ∨ ∃ a, a < tc ∧ x = nI a) (hf : ∀ f, f < 16 → (bt fx f = true ↔ ∃ a, a < tc ∧ x = nI a ∧ bt (fs a) f = true)) (h1 : ∀ i, i < tc * 16 + 0 → own' i = own i) (h2 : ∀ f, 0 ≤ f → f < 16 → own' (tc * 16 + f) = 0) : rl_P (tc + 1) mc (upd ab tc x) (upd fs tc fx) own' mN mL by' := by
  obtain ⟨a1, a2, a3, a4, a5, a6, a7⟩ := P
  refine ⟨by omega, a2, fun t h => ?_, a4, a5, a6, fun t h f hf' => ?_⟩
  · by_cases e : t = tc
    · subst e
      rw [pk_us]; exact hx
    · rw [pk_un e]; exact a3 t (by omega)
  · by_cases e : t = tc
    · subst e
      rw [pk_us, pk_us, hf f hf', h2 f (by omega) hf']
      constructor
      · rintro ⟨a, ha, e, hb⟩
        exact Or.inr ⟨a, ha, e, by rw [pk_un (by omega)]; exact hb⟩
      · rintro (z | ⟨a, ha, e, hb⟩)
        · exact absurd rfl z
        · rw [pk_un (by omega)] at hb
          exact ⟨a, ha, e, hb⟩
    · rw [pk_un e, pk_un e, h1 _ (by omega), a7 t (by omega) f hf']
      constructor
      · rintro (z | ⟨a, ha, e2, hb⟩)
        · exact Or.inl z
        · exact Or.inr ⟨a, ha, e2, by rw [pk_un (by omega)]; exact hb⟩
      · rintro (z | ⟨a, ha, e2, hb⟩)
        · exact Or.inl z
        · rw [pk_un (by omega)] at hb
          exact Or.inr ⟨a, ha, e2, hb⟩
theorem rl_H0 {h tc tc' : Nat} {fs fs' gl ot fv yg yt yf : Nat → Int32} (H : rl_H h tc fs gl ot fv yg yt yf) (h0 : h = 0) : rl_H 0 tc' fs' gl ot fv yg yt yf := by
  subst h0
  exact ⟨by omega, H.2.1, fun o ho => absurd ho (by omega)⟩
theorem gp_lt1 {x : Int32} (h : x < 0) (h2 : x ≠ -1) : x < -1 := by
  rw [Int32.lt_iff_toInt_lt] at h ⊢
  have h3 : x.toInt ≠ (-1 : Int32).toInt := fun e => h2 (Int32.toInt_inj.mp e)
  have e1 : (-1 : Int32).toInt = -1 := by decide
  have e0 : (0 : Int32).toInt = 0 := by decide
  omega
theorem gp_m1lt {n : Nat} (h : n < 2 ^ 31) : (-1 : Int32) < nI n := by
  rw [Int32.lt_iff_toInt_lt, nI_toInt h]
  have e1 : (-1 : Int32).toInt = -1 := by decide
  omega
theorem gp_nIm1 {n : Nat} (h : n < 2 ^ 31) : ¬ nI n < (-1 : Int32) := by
  rw [Int32.lt_iff_toInt_lt, nI_toInt h]
  have e1 : (-1 : Int32).toInt = -1 := by decide
  omega
theorem i_vc_type {k : Nat} {u : SX} {v : SY} (I : i_Rel k u v) (hk : k + 4 ≤ 2048) (v1 : Int32) : wpX_type (fun r u' => wpY_type (fun r' v' => r' = r ∧ i_Rel (k + 4) u' v') v v1) u v1 := by
  obtain ⟨f_typeCount, f_methodCount, f_linked, f_faultPlace, f_flowHeight, f_active, f_ticksLeft, f_outcome, f_latestResult, a_typeAbove, a_fieldSet, a_methodType, a_methodName, a_codeLength, a_bytes, a_isStart, a_heightAt, a_kindsAt, a_isWaiting, a_flowKinds, a_globals, a_objectType, a_fieldValue, a_isMarked, a_frameMethod, a_frameAt, a_frameHeight, a_slots⟩ := u
  obtain ⟨g_types, g_methods, g_place, g_result, g_linked, g_bad, g_high, g_refs, g_active, g_ticks, g_code, b_above, b_ownField, b_mType, b_mName, b_mLength, b_bytes, b_starts, b_seen, b_done, b_heights, b_local, b_sure, b_objType, b_objField, b_marked, b_global, b_fMethod, b_fPc, b_fHigh, b_fLocal, b_fEntry⟩ := v
  have I' := I
  obtain ⟨tc, mc, h, rfl, rfl, rfl, rfl, rfl, hl, rfl, hfp, rfl, rfl, rfl, rfl, rfl, rfl, rfl, P, KB, H, hh, hL⟩ := I
  unfold wpX_type
  have h5 := P.1
  rcases hl with rfl | rfl
  · have h0 : h = 0 := by
      rcases Nat.eq_zero_or_pos h with z | z
      · exact z
      · exact absurd rfl (hh z)
    refine br_t rfl ?_
    by_cases e5 : tc = 5
    · subst e5
      exact br_t rfl (by unfold wpY_type; exact br_t rfl (br_t rfl ⟨rfl, I'⟩))
    · have n5 : ¬ nI tc = 5 := by rw [gm_eqL (by omega) (by omega)]; exact e5
      refine br_f n5 ?_
      by_cases em : v1 = -1
      · subst em
        refine br_t rfl ?_
        unfold wX_type_32
        refine ⟨vp_in_nI (by omega) (by omega), nm_e (br_t rfl ?_)⟩
        unfold wX_type_64
        refine ⟨vp_in_nI (by omega) (by omega), nm_e (nm_r (nI_1 tc) ?_)⟩
        unfold wpY_type
        obtain ⟨own', o1, o2, o3⟩ := ev_ytl (nI tc) (nI mc) f_faultPlace f_latestResult 0 g_bad g_high g_refs g_active g_ticks g_code (upd a_typeAbove tc (-1)) b_ownField a_methodType a_methodName a_codeLength a_bytes b_starts b_seen b_done b_heights b_local b_sure b_objType b_objField b_marked b_global b_fMethod b_fPc b_fHigh b_fLocal b_fEntry (by omega) rfl 16 0 rfl b_ownField
        refine br_t rfl (br_f n5 (br_f (by decide) (br_t (gp_m1lt (by omega)) ⟨vp_in_nI (by omega) (by omega), nm_e ⟨17, ?_⟩⟩)))
        rw [nI_clamp (by omega)]
        refine o3 _ ⟨rfl, tc + 1, mc, 0, rfl, rfl, rfl, rfl, rfl, Or.inl rfl, rfl, hfp, rfl, rfl, rfl, rfl, rfl, rfl, rfl, ?_, KB, rl_H0 H h0, fun z => absurd z (by omega), fun z => absurd rfl z⟩
        exact rl_Pt P (by omega) (Or.inl rfl) (fun f hf => ⟨fun z => by rw [b_0] at z; exact absurd z (by decide), fun ⟨a, ha, e, _⟩ => by have := gm_m1 (a := a) (by omega); rw [← e] at this; exact absurd rfl (of_eq_false this)⟩) o1 o2
      · refine br_f em ?_
        unfold wpX_isType
        rcases pk_ix v1 (n := tc) (by omega) with z | z | ⟨a, ha, rfl⟩
        · refine br_t z (br_t rfl ?_)
          unfold wpY_type
          exact br_t rfl (br_f n5 (br_t (gp_lt1 z em) ⟨rfl, I'⟩))
        · have z0 : ¬ v1 < 0 := by
            rw [Int32.not_lt]; exact Int32.le_trans (nI_pos' (by omega)) z
          have z1 : ¬ v1 < -1 := by
            rw [Int32.not_lt]; exact Int32.le_trans (by decide) (Int32.not_lt.mp z0)
          refine br_f z0 (br_t z (br_t rfl ?_))
          unfold wpY_type
          exact br_t rfl (br_f n5 (br_f z1 (br_f (Int32.not_lt.mpr z) ⟨rfl, I'⟩)))
        · refine br_f (nI_pos (by omega)) (br_f (nI_ge ha (by omega)) (br_f (by decide) ?_))
          unfold wX_type_32
          refine ⟨vp_in_nI (by omega) (by omega), nm_e (br_f em ⟨vp_in_nI (by omega) (by omega), ?_⟩)⟩
          unfold wX_type_64
          refine ⟨vp_in_nI (by omega) (by omega), nm_e (nm_r (nI_1 tc) ?_)⟩
          rw [nI_clamp (by omega), nI_clamp (by omega)]
          unfold wpY_type
          obtain ⟨own', o1, o2, o3⟩ := ev_ytl (nI tc) (nI mc) f_faultPlace f_latestResult 0 g_bad g_high g_refs g_active g_ticks g_code (upd a_typeAbove tc (nI a)) b_ownField a_methodType a_methodName a_codeLength a_bytes b_starts b_seen b_done b_heights b_local b_sure b_objType b_objField b_marked b_global b_fMethod b_fPc b_fHigh b_fLocal b_fEntry (by omega) rfl 16 0 rfl b_ownField
          refine br_t rfl (br_f n5 (br_f (gp_nIm1 (by omega)) (br_t (nI_lt ha (by omega)) ⟨vp_in_nI (by omega) (by omega), nm_e ⟨17, ?_⟩⟩)))
          rw [nI_clamp (by omega)]
          refine o3 _ ⟨rfl, tc + 1, mc, 0, rfl, rfl, rfl, rfl, rfl, Or.inl rfl, rfl, hfp, rfl, rfl, rfl, rfl, rfl, rfl, rfl, ?_, KB, rl_H0 H h0, fun z => absurd z (by omega), fun z => absurd rfl z⟩
          exact rl_Pt P (by omega) (Or.inr ⟨a, ha, rfl⟩) (fun f hf => ⟨fun z => ⟨a, ha, rfl, z⟩, fun ⟨a', ha', e, z⟩ => by rw [(nI_eq (by omega) (by omega)).mp e]; exact z⟩) o1 o2
  · refine br_f (by decide) ?_
    unfold wpY_type
    exact br_f (by decide) ⟨rfl, I'⟩
