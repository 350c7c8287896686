/-! ===== bits ===== -/
theorem gm_1b : ∀ i, i < 32 → bt 1 i = decide (i = 0) := by decide +kernel
theorem gm_bit (x : Int32) {f : Nat} (hf : f < 32) : (x >>> (nI f &&& 31)) &&& 1 = if bt x f = true then 1 else 0 := by
  apply b_ext
  intro i hi
  rw [b_and, b_sshr f hf x hi, gm_1b i hi]
  by_cases h0 : i = 0
  · subst h0
    rw [if_pos (by omega)]
    cases h : bt x f <;> simp [h, gm_1b 0 (by omega), b_0]
  · simp [h0]
    split
    · rw [gm_1b i hi]; simp [h0]
    · rw [b_0]
theorem gm_bit1 (x : Int32) {f : Nat} (hf : f < 32) : ((x >>> (nI f &&& 31)) &&& 1 = 1) = (bt x f = true) := by
  rw [gm_bit x hf]
  cases bt x f <;> simp
theorem gm_bit0 (x : Int32) {f : Nat} (hf : f < 32) : ((x >>> (nI f &&& 31)) &&& 1 = 0) = (bt x f = false) := by
  rw [gm_bit x hf]
  cases bt x f <;> simp
theorem gm_set (x : Int32) {f i : Nat} (hf : f < 32) (hi : i < 32) : bt (x ||| ((1 : Int32) <<< (nI f &&& 31))) i = (bt x i || decide (i = f)) := by
  rw [b_or, b_shl f hf 1 hi]
  congr 1
  by_cases h : f ≤ i
  · rw [gm_1b (i - f) (by omega)]
    by_cases h2 : i = f
    · subst h2; simp
    · have h3 : i - f ≠ 0 := by omega
      simp [h2, h3]
  · have h2 : i ≠ f := by omega
    simp [h, h2]
def cf (x : Int32) : Nat → Nat
  | 0 => 0
  | j + 1 => cf x j + (if bt x j = true then 1 else 0)
theorem cf_le (x : Int32) : ∀ j, cf x j ≤ j
  | 0 => Nat.le_refl 0
  | j + 1 => by
    have := cf_le x j
    unfold cf
    split <;> omega
/-! ===== the class's small methods ===== -/
theorem ev_hasField (f_typeCount f_methodCount f_linked f_faultPlace f_flowHeight f_active f_ticksLeft f_outcome f_latestResult : Int32) (a_typeAbove a_fieldSet a_methodType a_methodName a_codeLength a_bytes a_isStart a_heightAt a_kindsAt a_isWaiting a_flowKinds a_globals a_objectType a_fieldValue a_isMarked a_frameMethod a_frameAt a_frameHeight a_slots : Nat → Int32) {post : Int32 → Prop} {t f : Nat} (ht : t < 5) (hf : f < 16) (J : post (if bt (a_fieldSet t) f = true then 1 else 0)) : wpX_hasField post (f_typeCount, f_methodCount, f_linked, f_faultPlace, f_flowHeight, f_active, f_ticksLeft, f_outcome, f_latestResult, a_typeAbove, a_fieldSet, a_methodType, a_methodName, a_codeLength, a_bytes, a_isStart, a_heightAt, a_kindsAt, a_isWaiting, a_flowKinds, a_globals, a_objectType, a_fieldValue, a_isMarked, a_frameMethod, a_frameAt, a_frameHeight, a_slots) (nI t) (nI f) := by
  unfold wpX_hasField
  simp (disch := omega) only [nI_clamp, gm_clL, gm_in, gm_inL, gm_ml, gm_al, gm_la, gm_sl, nI_add, pk_mul, gm_eqL, gm_leL, gm_ltL, gm_Lle, gm_Llt, gm_eq, gm_le, gm_lt, gm_m1, forall_eq, true_and, Nat.not_lt_zero, Nat.add_sub_cancel, gm_z2, gm_z3, gm_z9, gm_z16, gm_z18, gm_z32, gm_z36, gm_z64, gm_z1152, not_true_eq_false, not_false_eq_true, false_implies, true_implies, and_true, implies_true, gm_bit1]
  cases h : bt (a_fieldSet t) f
  · rw [h] at J; exact br_f (by decide) J
  · rw [h] at J; exact br_t rfl J
theorem ev_cnt (f_typeCount f_methodCount f_linked f_faultPlace f_flowHeight f_active f_ticksLeft f_outcome f_latestResult : Int32) (a_typeAbove a_fieldSet a_methodType a_methodName a_codeLength a_bytes a_isStart a_heightAt a_kindsAt a_isWaiting a_flowKinds a_globals a_objectType a_fieldValue a_isMarked a_frameMethod a_frameAt a_frameHeight a_slots : Nat → Int32) {post : Int32 → Prop} {t : Nat} (ht : t < 5) (J : post (nI (cf (a_fieldSet t) 16))) : ∀ d j, j + d = 16 → wX_countFields_4 post (nI t) f_typeCount f_methodCount f_linked f_faultPlace f_flowHeight f_active f_ticksLeft f_outcome f_latestResult a_typeAbove a_fieldSet a_methodType a_methodName a_codeLength a_bytes a_isStart a_heightAt a_kindsAt a_isWaiting a_flowKinds a_globals a_objectType a_fieldValue a_isMarked a_frameMethod a_frameAt a_frameHeight a_slots (d + 1) (nI (cf (a_fieldSet t) j)) (nI j) := by
  intro d
  induction d with
  | zero =>
    intro j hj
    cases (show j = 16 by omega)
    unfold wX_countFields_4
    exact br_t (by decide) J
  | succ d ih =>
    intro j hj
    have h := ih (j + 1) (by omega)
    have hc := cf_le (a_fieldSet t) j
    unfold wX_countFields_4
    simp (disch := omega) only [nI_clamp, gm_clL, gm_in, gm_inL, gm_ml, gm_al, gm_la, gm_sl, nI_add, pk_mul, gm_eqL, gm_leL, gm_ltL, gm_Lle, gm_Llt, gm_eq, gm_le, gm_lt, gm_m1, forall_eq, true_and, Nat.not_lt_zero, Nat.add_sub_cancel, gm_z2, gm_z3, gm_z9, gm_z16, gm_z18, gm_z32, gm_z36, gm_z64, gm_z1152, not_true_eq_false, not_false_eq_true, false_implies, true_implies, and_true, implies_true, gm_bit]
    refine ⟨fun z => absurd z (by omega), fun _ => ?_⟩
    have e : nI (cf (a_fieldSet t) j) + (if bt (a_fieldSet t) j = true then 1 else 0) = nI (cf (a_fieldSet t) (j + 1)) := by
      show _ = nI (cf (a_fieldSet t) j + _)
      split
      · exact nI_1 _
      · exact nI_add _ 0
    rw [e]
    exact h
theorem ev_countFields (f_typeCount f_methodCount f_linked f_faultPlace f_flowHeight f_active f_ticksLeft f_outcome f_latestResult : Int32) (a_typeAbove a_fieldSet a_methodType a_methodName a_codeLength a_bytes a_isStart a_heightAt a_kindsAt a_isWaiting a_flowKinds a_globals a_objectType a_fieldValue a_isMarked a_frameMethod a_frameAt a_frameHeight a_slots : Nat → Int32) {post : Int32 → Prop} {t : Nat} (ht : t < 5) (J : post (nI (cf (a_fieldSet t) 16))) : wpX_countFields post (f_typeCount, f_methodCount, f_linked, f_faultPlace, f_flowHeight, f_active, f_ticksLeft, f_outcome, f_latestResult, a_typeAbove, a_fieldSet, a_methodType, a_methodName, a_codeLength, a_bytes, a_isStart, a_heightAt, a_kindsAt, a_isWaiting, a_flowKinds, a_globals, a_objectType, a_fieldValue, a_isMarked, a_frameMethod, a_frameAt, a_frameHeight, a_slots) (nI t) := ⟨17, ev_cnt f_typeCount f_methodCount f_linked f_faultPlace f_flowHeight f_active f_ticksLeft f_outcome f_latestResult a_typeAbove a_fieldSet a_methodType a_methodName a_codeLength a_bytes a_isStart a_heightAt a_kindsAt a_isWaiting a_flowKinds a_globals a_objectType a_fieldValue a_isMarked a_frameMethod a_frameAt a_frameHeight a_slots ht J 16 0 rfl⟩
/-! ===== the reference's hasField ===== -/
theorem ev_yh (g_types g_methods g_place g_result g_linked g_bad g_high g_refs g_active g_ticks g_code : Int32) (b_above b_ownField b_mType b_mName b_mLength b_bytes b_starts : Nat → Int32) (b_seen b_done : Nat → Int64) (b_heights b_local b_sure b_objType b_objField b_marked b_global b_fMethod b_fPc b_fHigh b_fLocal b_fEntry : Nat → Int32) {post : Int32 → Prop} {tc mc f : Nat} {fs mN mL by' : Nat → Int32} (P : rl_P tc mc b_above fs b_ownField mN mL by') (hf : f < 16) :
    ∀ t, t < tc → post (if bt (fs t) f = true then 1 else 0) → ∀ n, t + 2 ≤ n → wY_hasField_2 post (nI f) g_types g_methods g_place g_result g_linked g_bad g_high g_refs g_active g_ticks g_code b_above b_ownField b_mType b_mName b_mLength b_bytes b_starts b_seen b_done b_heights b_local b_sure b_objType b_objField b_marked b_global b_fMethod b_fPc b_fHigh b_fLocal b_fEntry n (nI t) := by
  obtain ⟨h5, -, hab, -, -, -, hfs⟩ := P
  intro t
  induction t using Nat.strongRecOn with
  | ind t ih =>
    intro ht J n hn
    obtain ⟨n, rfl⟩ : ∃ k, n = k + 1 := ⟨n - 1, by omega⟩
    have hb := hfs t ht f hf
    unfold wY_hasField_2
    simp (disch := omega) only [nI_clamp, gm_clL, gm_in, gm_inL, gm_ml, gm_al, gm_la, gm_sl, nI_add, pk_mul, gm_eqL, gm_leL, gm_ltL, gm_Lle, gm_Llt, gm_eq, gm_le, gm_lt, gm_m1, forall_eq, true_and, Nat.not_lt_zero, Nat.add_sub_cancel, gm_z2, gm_z3, gm_z9, gm_z16, gm_z18, gm_z32, gm_z36, gm_z64, gm_z1152, not_true_eq_false, not_false_eq_true, false_implies, true_implies, and_true, implies_true]
    by_cases ho : b_ownField (t * 16 + f) = 0
    · refine br_t ho ?_
      rcases hab t ht with e | ⟨a, ha, e⟩
      · have hb0 : bt (fs t) f = false := by
          cases h : bt (fs t) f
          · rfl
          · rcases hb.mp h with z | ⟨a, ha, e2, _⟩
            · exact absurd ho z
            · have hm := gm_m1 (a := a) (by omega)
              rw [← e2, e] at hm
              exact absurd rfl (of_eq_false hm)
        rw [hb0] at J
        rw [e]
        obtain ⟨n, rfl⟩ : ∃ k, n = k + 1 := ⟨n - 1, by omega⟩
        exact br_t (by decide) J
      · rw [e]
        have hb1 : bt (fs t) f = bt (fs a) f := by
          cases h : bt (fs a) f
          · cases h2 : bt (fs t) f
            · rfl
            · rcases hb.mp h2 with z | ⟨a', ha', e2, h3⟩
              · exact absurd ho z
              · rw [e] at e2
                rw [(nI_eq (by omega) (by omega)).mp e2, h3] at h
                exact absurd h (by decide)
          · exact hb.mpr (Or.inr ⟨a, ha, e, h⟩)
        rw [hb1] at J
        exact ih a ha (by omega) J n (by omega)
    · refine br_f ho ?_
      rw [hb.mpr (Or.inl ho)] at J
      exact J
theorem ev_yhas (g_types g_methods g_place g_result g_linked g_bad g_high g_refs g_active g_ticks g_code : Int32) (b_above b_ownField b_mType b_mName b_mLength b_bytes b_starts : Nat → Int32) (b_seen b_done : Nat → Int64) (b_heights b_local b_sure b_objType b_objField b_marked b_global b_fMethod b_fPc b_fHigh b_fLocal b_fEntry : Nat → Int32) {post : Int32 → Prop} {tc mc f t : Nat} {fs mN mL by' : Nat → Int32} (P : rl_P tc mc b_above fs b_ownField mN mL by') (hf : f < 16) (ht : t < tc) (J : post (if bt (fs t) f = true then 1 else 0)) : wpY_hasField post (g_types, g_methods, g_place, g_result, g_linked, g_bad, g_high, g_refs, g_active, g_ticks, g_code, b_above, b_ownField, b_mType, b_mName, b_mLength, b_bytes, b_starts, b_seen, b_done, b_heights, b_local, b_sure, b_objType, b_objField, b_marked, b_global, b_fMethod, b_fPc, b_fHigh, b_fLocal, b_fEntry) (nI t) (nI f) := ⟨t + 2, ev_yh g_types g_methods g_place g_result g_linked g_bad g_high g_refs g_active g_ticks g_code b_above b_ownField b_mType b_mName b_mLength b_bytes b_starts b_seen b_done b_heights b_local b_sure b_objType b_objField b_marked b_global b_fMethod b_fPc b_fHigh b_fLocal b_fEntry P hf t ht J _ (by omega)⟩
