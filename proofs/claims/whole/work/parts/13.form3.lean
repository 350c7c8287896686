def jfI (L p : Nat) (D : Nat → Nat) (ys : Nat → Int32) : Prop := ∀ q, q < p → ys q ≠ 0 → (D q = 10 ∨ D q = 11) → D (q + 1) < L ∧ ys (D (q + 1)) ≠ 0
theorem jf_both (f_typeCount f_methodCount f_linked f_faultPlace f_flowHeight f_active f_ticksLeft f_outcome f_latestResult : Int32) (a_typeAbove a_fieldSet a_methodType a_methodName a_codeLength a_bytes a_isStart a_heightAt a_kindsAt a_isWaiting a_flowKinds a_globals a_objectType a_fieldValue a_isMarked a_frameMethod a_frameAt a_frameHeight a_slots : Nat → Int32) (g_types g_methods g_place g_result g_linked g_bad g_high g_refs g_active g_ticks g_code : Int32) (b_above b_ownField b_mType b_mName b_mLength b_starts : Nat → Int32) (b_seen b_done : Nat → Int64) (b_heights b_local b_sure b_objType b_objField b_marked b_global b_fMethod b_fPc b_fHigh b_fLocal b_fEntry : Nat → Int32) {m L tc : Nat} {D : Nat → Nat} (hm : m < 8) (hL : L ≤ 32) (eL : a_codeLength m = nI L) (hD : ∀ p, p < 33 → a_bytes (m * 32 + p) = nI (D p) ∧ D p < 256) (I : fbI m L tc L D a_isStart b_starts) :
    ∀ d p, p + d = L → jfI L p D b_starts →
    (∃ q, q < 32 ∧ (q < L ∧ stt D q = true ∧ jbP L D q ∧ ∀ p, p < q → stt D p = true → ¬ jbP L D p) ∧ (∀ post : Int32 → Prop, post (nI q) → wX_findJumpFault_7 post (nI m) (nI (m * 32)) f_typeCount f_methodCount f_linked f_faultPlace f_flowHeight f_active f_ticksLeft f_outcome f_latestResult a_typeAbove a_fieldSet a_methodType a_methodName a_codeLength a_bytes a_isStart a_heightAt a_kindsAt a_isWaiting a_flowKinds a_globals a_objectType a_fieldValue a_isMarked a_frameMethod a_frameAt a_frameHeight a_slots (d + 1) (nI p)) ∧ (∀ post : Int32 → SY → Prop, post (nI q) (g_types, g_methods, g_place, g_result, g_linked, g_bad, g_high, g_refs, g_active, g_ticks, g_code, b_above, b_ownField, b_mType, b_mName, b_mLength, a_bytes, b_starts, b_seen, b_done, b_heights, b_local, b_sure, b_objType, b_objField, b_marked, b_global, b_fMethod, b_fPc, b_fHigh, b_fLocal, b_fEntry) → wY_formFault_198 post (nI m) (nI L) g_types g_methods g_place g_result g_linked g_bad g_high g_refs g_active g_ticks g_code b_above b_ownField b_mType b_mName b_mLength a_bytes b_starts b_seen b_done b_heights b_local b_sure b_objType b_objField b_marked b_global b_fMethod b_fPc b_fHigh b_fLocal b_fEntry (d + 1) (nI p))) ∨
    (jfI L L D b_starts ∧ (∀ post : Int32 → Prop, post (-1) → wX_findJumpFault_7 post (nI m) (nI (m * 32)) f_typeCount f_methodCount f_linked f_faultPlace f_flowHeight f_active f_ticksLeft f_outcome f_latestResult a_typeAbove a_fieldSet a_methodType a_methodName a_codeLength a_bytes a_isStart a_heightAt a_kindsAt a_isWaiting a_flowKinds a_globals a_objectType a_fieldValue a_isMarked a_frameMethod a_frameAt a_frameHeight a_slots (d + 1) (nI p)) ∧ (∀ post : Int32 → SY → Prop, post (-1) (g_types, g_methods, g_place, g_result, g_linked, g_bad, g_high, g_refs, g_active, g_ticks, g_code, b_above, b_ownField, b_mType, b_mName, b_mLength, a_bytes, b_starts, b_seen, b_done, b_heights, b_local, b_sure, b_objType, b_objField, b_marked, b_global, b_fMethod, b_fPc, b_fHigh, b_fLocal, b_fEntry) → wY_formFault_198 post (nI m) (nI L) g_types g_methods g_place g_result g_linked g_bad g_high g_refs g_active g_ticks g_code b_above b_ownField b_mType b_mName b_mLength a_bytes b_starts b_seen b_done b_heights b_local b_sure b_objType b_objField b_marked b_global b_fMethod b_fPc b_fHigh b_fLocal b_fEntry (d + 1) (nI p))) := by
  obtain ⟨-, i2, i3, i4, -, i6, -⟩ := I
  intro d
  induction d with
  | zero =>
    intro p hp J
    cases (show p = L by omega)
    refine Or.inr ⟨J, fun post J => ?_, fun post J => ?_⟩
    · unfold wX_findJumpFault_7
      simp (disch := omega) only [nI_clamp, gm_clL, gm_in, gm_inL, gm_ml, gm_al, gm_la, gm_sl, nI_add, pk_mul, gm_eqL, gm_leL, gm_ltL, gm_Lle, gm_Llt, gm_eq, gm_le, gm_lt, gm_m1, forall_eq, true_and, Nat.not_lt_zero, Nat.add_sub_cancel, gm_z2, gm_z3, gm_z9, gm_z16, gm_z18, gm_z32, gm_z36, gm_z64, gm_z1152, not_true_eq_false, not_false_eq_true, false_implies, true_implies, and_true, implies_true, eL]
      exact ⟨fun _ => J, fun z => absurd (Nat.le_refl _) z⟩
    · unfold wY_formFault_198
      simp (disch := omega) only [nI_clamp, gm_clL, gm_in, gm_inL, gm_ml, gm_al, gm_la, gm_sl, nI_add, pk_mul, gm_eqL, gm_leL, gm_ltL, gm_Lle, gm_Llt, gm_eq, gm_le, gm_lt, gm_m1, forall_eq, true_and, Nat.not_lt_zero, Nat.add_sub_cancel, gm_z2, gm_z3, gm_z9, gm_z16, gm_z18, gm_z32, gm_z36, gm_z64, gm_z1152, not_true_eq_false, not_false_eq_true, false_implies, true_implies, and_true, implies_true]
      exact ⟨fun _ => J, fun z => absurd (Nat.le_refl _) z⟩
  | succ d ih =>
    intro p hp J
    obtain ⟨eD, hD2⟩ := hD p (by omega)
    obtain ⟨eD1, hD3⟩ := hD (p + 1) (by omega)
    rw [show m * 32 + (p + 1) = m * 32 + p + 1 by omega] at eD1
    have es := i2 p (by omega)
    have go : (b_starts p ≠ 0 → (D p = 10 ∨ D p = 11) → D (p + 1) < L ∧ b_starts (D (p + 1)) ≠ 0) → jfI L (p + 1) D b_starts := by
      intro h q hq h1 h2
      by_cases e : q = p
      · subst e; exact h h1 h2
      · exact J q (by omega) h1 h2
    by_cases hs : b_starts p = 0
    · have sX : ∀ post : Int32 → Prop, wX_findJumpFault_7 post (nI m) (nI (m * 32)) f_typeCount f_methodCount f_linked f_faultPlace f_flowHeight f_active f_ticksLeft f_outcome f_latestResult a_typeAbove a_fieldSet a_methodType a_methodName a_codeLength a_bytes a_isStart a_heightAt a_kindsAt a_isWaiting a_flowKinds a_globals a_objectType a_fieldValue a_isMarked a_frameMethod a_frameAt a_frameHeight a_slots (d + 1) (nI (p + 1)) → wX_findJumpFault_7 post (nI m) (nI (m * 32)) f_typeCount f_methodCount f_linked f_faultPlace f_flowHeight f_active f_ticksLeft f_outcome f_latestResult a_typeAbove a_fieldSet a_methodType a_methodName a_codeLength a_bytes a_isStart a_heightAt a_kindsAt a_isWaiting a_flowKinds a_globals a_objectType a_fieldValue a_isMarked a_frameMethod a_frameAt a_frameHeight a_slots (d + 1 + 1) (nI p) := by
        intro post h
        unfold wX_findJumpFault_7
        simp (disch := omega) only [nI_clamp, gm_clL, gm_in, gm_inL, gm_ml, gm_al, gm_la, gm_sl, nI_add, pk_mul, gm_eqL, gm_leL, gm_ltL, gm_Lle, gm_Llt, gm_eq, gm_le, gm_lt, gm_m1, forall_eq, true_and, Nat.not_lt_zero, Nat.add_sub_cancel, gm_z2, gm_z3, gm_z9, gm_z16, gm_z18, gm_z32, gm_z36, gm_z64, gm_z1152, not_true_eq_false, not_false_eq_true, false_implies, true_implies, and_true, implies_true, eL, es, hs]
        exact ⟨fun z => absurd z (by omega), fun _ => h⟩
      have sY : ∀ post : Int32 → SY → Prop, wY_formFault_198 post (nI m) (nI L) g_types g_methods g_place g_result g_linked g_bad g_high g_refs g_active g_ticks g_code b_above b_ownField b_mType b_mName b_mLength a_bytes b_starts b_seen b_done b_heights b_local b_sure b_objType b_objField b_marked b_global b_fMethod b_fPc b_fHigh b_fLocal b_fEntry (d + 1) (nI (p + 1)) → wY_formFault_198 post (nI m) (nI L) g_types g_methods g_place g_result g_linked g_bad g_high g_refs g_active g_ticks g_code b_above b_ownField b_mType b_mName b_mLength a_bytes b_starts b_seen b_done b_heights b_local b_sure b_objType b_objField b_marked b_global b_fMethod b_fPc b_fHigh b_fLocal b_fEntry (d + 1 + 1) (nI p) := by
        intro post h
        unfold wY_formFault_198
        simp (disch := omega) only [nI_clamp, gm_clL, gm_in, gm_inL, gm_ml, gm_al, gm_la, gm_sl, nI_add, pk_mul, gm_eqL, gm_leL, gm_ltL, gm_Lle, gm_Llt, gm_eq, gm_le, gm_lt, gm_m1, forall_eq, true_and, Nat.not_lt_zero, Nat.add_sub_cancel, gm_z2, gm_z3, gm_z9, gm_z16, gm_z18, gm_z32, gm_z36, gm_z64, gm_z1152, not_true_eq_false, not_false_eq_true, false_implies, true_implies, and_true, implies_true, hs]
        exact ⟨fun z => absurd z (by omega), fun _ => h⟩
      rcases ih (p + 1) (by omega) (go (fun z => absurd hs z)) with ⟨q, hq, hfq, hX, hY⟩ | ⟨hJ, hX, hY⟩
      · exact Or.inl ⟨q, hq, hfq, fun post j => sX post (hX post j), fun post j => sY post (hY post j)⟩
      · exact Or.inr ⟨hJ, fun post j => sX post (hX post j), fun post j => sY post (hY post j)⟩
    · obtain ⟨k1, k2, k3, k4⟩ := i4 p (by omega) hs
      have es' : ¬ a_isStart (m * 32 + p) = 0 := by rw [es]; exact hs
      by_cases hj : D p = 10 ∨ D p = 11
      · have hz : is_sz (D p) = 2 := by rcases hj with e | e <;> rw [e] <;> rfl
        have sX : ∀ post : Int32 → Prop, ((L ≤ D (p + 1) ∨ b_starts (D (p + 1)) = 0) → post (nI p)) → (D (p + 1) < L → b_starts (D (p + 1)) ≠ 0 → wX_findJumpFault_7 post (nI m) (nI (m * 32)) f_typeCount f_methodCount f_linked f_faultPlace f_flowHeight f_active f_ticksLeft f_outcome f_latestResult a_typeAbove a_fieldSet a_methodType a_methodName a_codeLength a_bytes a_isStart a_heightAt a_kindsAt a_isWaiting a_flowKinds a_globals a_objectType a_fieldValue a_isMarked a_frameMethod a_frameAt a_frameHeight a_slots (d + 1) (nI (p + 1))) → wX_findJumpFault_7 post (nI m) (nI (m * 32)) f_typeCount f_methodCount f_linked f_faultPlace f_flowHeight f_active f_ticksLeft f_outcome f_latestResult a_typeAbove a_fieldSet a_methodType a_methodName a_codeLength a_bytes a_isStart a_heightAt a_kindsAt a_isWaiting a_flowKinds a_globals a_objectType a_fieldValue a_isMarked a_frameMethod a_frameAt a_frameHeight a_slots (d + 1 + 1) (nI p) := by
          intro post h1 h2
          have c : wX_findJumpFault_52 post (wX_findJumpFault_7 post (nI m) (nI (m * 32)) f_typeCount f_methodCount f_linked f_faultPlace f_flowHeight f_active f_ticksLeft f_outcome f_latestResult a_typeAbove a_fieldSet a_methodType a_methodName a_codeLength a_bytes a_isStart a_heightAt a_kindsAt a_isWaiting a_flowKinds a_globals a_objectType a_fieldValue a_isMarked a_frameMethod a_frameAt a_frameHeight a_slots (d + 1)) (nI m) (nI (m * 32)) (nI p) f_typeCount f_methodCount f_linked f_faultPlace f_flowHeight f_active f_ticksLeft f_outcome f_latestResult a_typeAbove a_fieldSet a_methodType a_methodName a_codeLength a_bytes a_isStart a_heightAt a_kindsAt a_isWaiting a_flowKinds a_globals a_objectType a_fieldValue a_isMarked a_frameMethod a_frameAt a_frameHeight a_slots := by
            unfold wX_findJumpFault_52
            simp (disch := omega) only [nI_clamp, gm_clL, gm_in, gm_inL, gm_ml, gm_al, gm_la, gm_sl, nI_add, pk_mul, gm_eqL, gm_leL, gm_ltL, gm_Lle, gm_Llt, gm_eq, gm_le, gm_lt, gm_m1, forall_eq, true_and, Nat.not_lt_zero, Nat.add_sub_cancel, gm_z2, gm_z3, gm_z9, gm_z16, gm_z18, gm_z32, gm_z36, gm_z64, gm_z1152, not_true_eq_false, not_false_eq_true, false_implies, true_implies, and_true, implies_true, eL, eD1]
            refine ⟨fun z => h1 (Or.inl z), fun z => ⟨vp_in_nI (by omega) (by omega), ?_⟩⟩
            rw [i2 (D (p + 1)) (by omega)]
            exact ⟨fun z2 => h1 (Or.inr z2), fun z2 => h2 (by omega) z2⟩
          unfold wX_findJumpFault_7
          simp (disch := omega) only [nI_clamp, gm_clL, gm_in, gm_inL, gm_ml, gm_al, gm_la, gm_sl, nI_add, pk_mul, gm_eqL, gm_leL, gm_ltL, gm_Lle, gm_Llt, gm_eq, gm_le, gm_lt, gm_m1, forall_eq, true_and, Nat.not_lt_zero, Nat.add_sub_cancel, gm_z2, gm_z3, gm_z9, gm_z16, gm_z18, gm_z32, gm_z36, gm_z64, gm_z1152, not_true_eq_false, not_false_eq_true, false_implies, true_implies, and_true, implies_true, eL, eD]
          refine ⟨fun z => absurd z (by omega), fun _ => br_f es' ?_⟩
          exact ⟨fun _ => c, fun z => ⟨fun _ => c, fun z2 => absurd hj (by omega)⟩⟩
        have sY : ∀ post : Int32 → SY → Prop, ((L ≤ D (p + 1) ∨ b_starts (D (p + 1)) = 0) → post (nI p) (g_types, g_methods, g_place, g_result, g_linked, g_bad, g_high, g_refs, g_active, g_ticks, g_code, b_above, b_ownField, b_mType, b_mName, b_mLength, a_bytes, b_starts, b_seen, b_done, b_heights, b_local, b_sure, b_objType, b_objField, b_marked, b_global, b_fMethod, b_fPc, b_fHigh, b_fLocal, b_fEntry)) → (D (p + 1) < L → b_starts (D (p + 1)) ≠ 0 → wY_formFault_198 post (nI m) (nI L) g_types g_methods g_place g_result g_linked g_bad g_high g_refs g_active g_ticks g_code b_above b_ownField b_mType b_mName b_mLength a_bytes b_starts b_seen b_done b_heights b_local b_sure b_objType b_objField b_marked b_global b_fMethod b_fPc b_fHigh b_fLocal b_fEntry (d + 1) (nI (p + 1))) → wY_formFault_198 post (nI m) (nI L) g_types g_methods g_place g_result g_linked g_bad g_high g_refs g_active g_ticks g_code b_above b_ownField b_mType b_mName b_mLength a_bytes b_starts b_seen b_done b_heights b_local b_sure b_objType b_objField b_marked b_global b_fMethod b_fPc b_fHigh b_fLocal b_fEntry (d + 1 + 1) (nI p) := by
          intro post h1 h2
          have c : wY_formFault_247 post (wY_formFault_198 post (nI m) (nI L) g_types g_methods g_place g_result g_linked g_bad g_high g_refs g_active g_ticks g_code b_above b_ownField b_mType b_mName b_mLength a_bytes b_starts b_seen b_done b_heights b_local b_sure b_objType b_objField b_marked b_global b_fMethod b_fPc b_fHigh b_fLocal b_fEntry (d + 1)) (nI m) (nI L) (nI p) g_types g_methods g_place g_result g_linked g_bad g_high g_refs g_active g_ticks g_code b_above b_ownField b_mType b_mName b_mLength a_bytes b_starts b_seen b_done b_heights b_local b_sure b_objType b_objField b_marked b_global b_fMethod b_fPc b_fHigh b_fLocal b_fEntry := by
            unfold wY_formFault_247
            simp (disch := omega) only [nI_clamp, gm_clL, gm_in, gm_inL, gm_ml, gm_al, gm_la, gm_sl, nI_add, pk_mul, gm_eqL, gm_leL, gm_ltL, gm_Lle, gm_Llt, gm_eq, gm_le, gm_lt, gm_m1, forall_eq, true_and, Nat.not_lt_zero, Nat.add_sub_cancel, gm_z2, gm_z3, gm_z9, gm_z16, gm_z18, gm_z32, gm_z36, gm_z64, gm_z1152, not_true_eq_false, not_false_eq_true, false_implies, true_implies, and_true, implies_true, eD1]
            refine ⟨fun z => h1 (Or.inl z), fun z => ⟨vp_in_nI (by omega) (by omega), ?_⟩⟩
            exact ⟨fun z2 => h1 (Or.inr z2), fun z2 => h2 (by omega) z2⟩
          unfold wY_formFault_198
          simp (disch := omega) only [nI_clamp, gm_clL, gm_in, gm_inL, gm_ml, gm_al, gm_la, gm_sl, nI_add, pk_mul, gm_eqL, gm_leL, gm_ltL, gm_Lle, gm_Llt, gm_eq, gm_le, gm_lt, gm_m1, forall_eq, true_and, Nat.not_lt_zero, Nat.add_sub_cancel, gm_z2, gm_z3, gm_z9, gm_z16, gm_z18, gm_z32, gm_z36, gm_z64, gm_z1152, not_true_eq_false, not_false_eq_true, false_implies, true_implies, and_true, implies_true, eD]
          refine ⟨fun z => absurd z (by omega), fun _ => br_f hs ?_⟩
          exact ⟨fun _ => c, fun z => ⟨fun _ => c, fun z2 => absurd hj (by omega)⟩⟩
        by_cases c : D (p + 1) < L ∧ b_starts (D (p + 1)) ≠ 0
        · have nc : ¬ (L ≤ D (p + 1) ∨ b_starts (D (p + 1)) = 0) := by
            rintro (z | z)
            · omega
            · exact c.2 z
          rcases ih (p + 1) (by omega) (go (fun _ _ => c)) with ⟨q, hq, hfq, hX, hY⟩ | ⟨hJ, hX, hY⟩
          · exact Or.inl ⟨q, hq, hfq, fun post j => sX post (fun z => absurd z nc) (fun _ _ => hX post j), fun post j => sY post (fun z => absurd z nc) (fun _ _ => hY post j)⟩
          · exact Or.inr ⟨hJ, fun post j => sX post (fun z => absurd z nc) (fun _ _ => hX post j), fun post j => sY post (fun z => absurd z nc) (fun _ _ => hY post j)⟩
        · have hst : ∀ r, r < L → (b_starts r ≠ 0 ↔ stt D r = true) := i6
          have jb : jbP L D p := ⟨hj, fun z => c ⟨z.1, (hst _ z.1).mpr z.2⟩⟩
          have old : ∀ q, q < p → stt D q = true → ¬ jbP L D q := fun q hq hs2 z => by
            obtain ⟨z1, z2⟩ := J q hq ((hst q (by omega)).mpr hs2) z.1
            exact z.2 ⟨z1, (hst _ z1).mp z2⟩
          exact Or.inl ⟨p, by omega, ⟨by omega, (hst p (by omega)).mp hs, jb, old⟩, fun post j => sX post (fun _ => j) (fun z1 z2 => absurd ⟨z1, z2⟩ c), fun post j => sY post (fun _ => j) (fun z1 z2 => absurd ⟨z1, z2⟩ c)⟩
      · have sX : ∀ post : Int32 → Prop, wX_findJumpFault_7 post (nI m) (nI (m * 32)) f_typeCount f_methodCount f_linked f_faultPlace f_flowHeight f_active f_ticksLeft f_outcome f_latestResult a_typeAbove a_fieldSet a_methodType a_methodName a_codeLength a_bytes a_isStart a_heightAt a_kindsAt a_isWaiting a_flowKinds a_globals a_objectType a_fieldValue a_isMarked a_frameMethod a_frameAt a_frameHeight a_slots (d + 1) (nI (p + 1)) → wX_findJumpFault_7 post (nI m) (nI (m * 32)) f_typeCount f_methodCount f_linked f_faultPlace f_flowHeight f_active f_ticksLeft f_outcome f_latestResult a_typeAbove a_fieldSet a_methodType a_methodName a_codeLength a_bytes a_isStart a_heightAt a_kindsAt a_isWaiting a_flowKinds a_globals a_objectType a_fieldValue a_isMarked a_frameMethod a_frameAt a_frameHeight a_slots (d + 1 + 1) (nI p) := by
          intro post h
          unfold wX_findJumpFault_7
          simp (disch := omega) only [nI_clamp, gm_clL, gm_in, gm_inL, gm_ml, gm_al, gm_la, gm_sl, nI_add, pk_mul, gm_eqL, gm_leL, gm_ltL, gm_Lle, gm_Llt, gm_eq, gm_le, gm_lt, gm_m1, forall_eq, true_and, Nat.not_lt_zero, Nat.add_sub_cancel, gm_z2, gm_z3, gm_z9, gm_z16, gm_z18, gm_z32, gm_z36, gm_z64, gm_z1152, not_true_eq_false, not_false_eq_true, false_implies, true_implies, and_true, implies_true, eL, eD]
          exact ⟨fun z => absurd z (by omega), fun _ => br_f es' ⟨fun z => absurd (Or.inl z) hj, fun _ => ⟨fun z => absurd (Or.inr z) hj, fun _ => h⟩⟩⟩
        have sY : ∀ post : Int32 → SY → Prop, wY_formFault_198 post (nI m) (nI L) g_types g_methods g_place g_result g_linked g_bad g_high g_refs g_active g_ticks g_code b_above b_ownField b_mType b_mName b_mLength a_bytes b_starts b_seen b_done b_heights b_local b_sure b_objType b_objField b_marked b_global b_fMethod b_fPc b_fHigh b_fLocal b_fEntry (d + 1) (nI (p + 1)) → wY_formFault_198 post (nI m) (nI L) g_types g_methods g_place g_result g_linked g_bad g_high g_refs g_active g_ticks g_code b_above b_ownField b_mType b_mName b_mLength a_bytes b_starts b_seen b_done b_heights b_local b_sure b_objType b_objField b_marked b_global b_fMethod b_fPc b_fHigh b_fLocal b_fEntry (d + 1 + 1) (nI p) := by
          intro post h
          unfold wY_formFault_198
          simp (disch := omega) only [nI_clamp, gm_clL, gm_in, gm_inL, gm_ml, gm_al, gm_la, gm_sl, nI_add, pk_mul, gm_eqL, gm_leL, gm_ltL, gm_Lle, gm_Llt, gm_eq, gm_le, gm_lt, gm_m1, forall_eq, true_and, Nat.not_lt_zero, Nat.add_sub_cancel, gm_z2, gm_z3, gm_z9, gm_z16, gm_z18, gm_z32, gm_z36, gm_z64, gm_z1152, not_true_eq_false, not_false_eq_true, false_implies, true_implies, and_true, implies_true, eD]
          exact ⟨fun z => absurd z (by omega), fun _ => br_f hs ⟨fun z => absurd (Or.inl z) hj, fun _ => ⟨fun z => absurd (Or.inr z) hj, fun _ => h⟩⟩⟩
        rcases ih (p + 1) (by omega) (go (fun _ z => absurd z hj)) with ⟨q, hq, hfq, hX, hY⟩ | ⟨hJ, hX, hY⟩
        · exact Or.inl ⟨q, hq, hfq, fun post j => sX post (hX post j), fun post j => sY post (hY post j)⟩
        · exact Or.inr ⟨hJ, fun post j => sX post (hX post j), fun post j => sY post (hY post j)⟩
/-! ===== clearing the first bytes ===== -/
theorem cl_x7 (f_typeCount f_methodCount f_linked f_faultPlace f_flowHeight f_active f_ticksLeft f_outcome f_latestResult : Int32) (a_typeAbove a_fieldSet a_methodType a_methodName a_codeLength a_bytes a_heightAt a_kindsAt a_isWaiting a_flowKinds a_globals a_objectType a_fieldValue a_isMarked a_frameMethod a_frameAt a_frameHeight a_slots : Nat → Int32) {m : Nat} (hm : m < 8) : ∀ d j, j + d = 32 → ∀ xs : Nat → Int32, (∀ q, q < j → xs (m * 32 + q) = 0) → ∃ xs' : Nat → Int32, (∀ q, q < 32 → xs' (m * 32 + q) = 0) ∧ ∀ post, (∃ n, wX_findByteFault_30 post (nI m) (nI (m * 32)) f_typeCount f_methodCount f_linked f_faultPlace f_flowHeight f_active f_ticksLeft f_outcome f_latestResult n 0 a_typeAbove a_fieldSet a_methodType a_methodName a_codeLength a_bytes xs' a_heightAt a_kindsAt a_isWaiting a_flowKinds a_globals a_objectType a_fieldValue a_isMarked a_frameMethod a_frameAt a_frameHeight a_slots) → wX_findByteFault_7 post (nI m) (nI (m * 32)) f_typeCount f_methodCount f_linked f_faultPlace f_flowHeight f_active f_ticksLeft f_outcome f_latestResult (d + 1) (nI j) a_typeAbove a_fieldSet a_methodType a_methodName a_codeLength a_bytes xs a_heightAt a_kindsAt a_isWaiting a_flowKinds a_globals a_objectType a_fieldValue a_isMarked a_frameMethod a_frameAt a_frameHeight a_slots := by
  intro d
  induction d with
  | zero =>
    intro j hj xs h
    cases (show j = 32 by omega)
    refine ⟨xs, h, fun post J => ?_⟩
    unfold wX_findByteFault_7
    exact br_t (by decide) J
  | succ d ih =>
    intro j hj xs h
    obtain ⟨xs', c1, c2⟩ := ih (j + 1) (by omega) (upd xs (m * 32 + j) 0) (fun q hq => by
      by_cases e : q = j
      · subst e; exact pk_us
      · rw [pk_un (by omega)]; exact h q (by omega))
    refine ⟨xs', c1, fun post J => ?_⟩
    unfold wX_findByteFault_7
    simp (disch := omega) only [nI_clamp, gm_clL, gm_in, gm_inL, gm_ml, gm_al, gm_la, gm_sl, nI_add, pk_mul, gm_eqL, gm_leL, gm_ltL, gm_Lle, gm_Llt, gm_eq, gm_le, gm_lt, gm_m1, forall_eq, true_and, Nat.not_lt_zero, Nat.add_sub_cancel, gm_z2, gm_z3, gm_z9, gm_z16, gm_z18, gm_z32, gm_z36, gm_z64, gm_z1152, not_true_eq_false, not_false_eq_true, false_implies, true_implies, and_true, implies_true, gm_nb0]
    exact ⟨fun z => absurd z (by omega), fun _ => c2 post J⟩
theorem cl_y12 (g_types g_methods g_place g_result g_linked g_bad g_high g_refs g_active g_ticks g_code : Int32) (b_above b_ownField b_mType b_mName b_mLength b_bytes : Nat → Int32) (b_seen b_done : Nat → Int64) (b_heights b_local b_sure b_objType b_objField b_marked b_global b_fMethod b_fPc b_fHigh b_fLocal b_fEntry : Nat → Int32) (x1 x2 x3 : Int32) : ∀ d j, j + d = 32 → ∀ ys : Nat → Int32, (∀ q, q < j → ys q = 0) → ∃ ys' : Nat → Int32, (∀ q, q < 32 → ys' q = 0) ∧ ∀ post, (((x2 = 0 → (post 0 (g_types, g_methods, g_place, g_result, g_linked, g_bad, g_high, g_refs, g_active, g_ticks, g_code, b_above, b_ownField, b_mType, b_mName, b_mLength, b_bytes, ys', b_seen, b_done, b_heights, b_local, b_sure, b_objType, b_objField, b_marked, b_global, b_fMethod, b_fPc, b_fHigh, b_fLocal, b_fEntry))) ∧ (¬ x2 = 0 → (∃ n39 : Nat, wY_formFault_39 post x1 x2 g_types g_methods g_place g_result g_linked g_bad g_high g_refs g_active g_ticks g_code n39 x3 b_above b_ownField b_mType b_mName b_mLength b_bytes ys' b_seen b_done b_heights b_local b_sure b_objType b_objField b_marked b_global b_fMethod b_fPc b_fHigh b_fLocal b_fEntry)))) → wY_formFault_12 post x1 x2 x3 g_types g_methods g_place g_result g_linked g_bad g_high g_refs g_active g_ticks g_code (d + 1) (nI j) b_above b_ownField b_mType b_mName b_mLength b_bytes ys b_seen b_done b_heights b_local b_sure b_objType b_objField b_marked b_global b_fMethod b_fPc b_fHigh b_fLocal b_fEntry := by
  intro d
  induction d with
  | zero =>
    intro j hj ys h
    cases (show j = 32 by omega)
    refine ⟨ys, h, fun post J => ?_⟩
    unfold wY_formFault_12
    exact br_t (by decide) J
  | succ d ih =>
    intro j hj ys h
    obtain ⟨ys', c1, c2⟩ := ih (j + 1) (by omega) (upd ys j 0) (fun q hq => by
      by_cases e : q = j
      · subst e; exact pk_us
      · rw [pk_un e]; exact h q (by omega))
    refine ⟨ys', c1, fun post J => ?_⟩
    unfold wY_formFault_12
    simp (disch := omega) only [nI_clamp, gm_clL, gm_in, gm_inL, gm_ml, gm_al, gm_la, gm_sl, nI_add, pk_mul, gm_eqL, gm_leL, gm_ltL, gm_Lle, gm_Llt, gm_eq, gm_le, gm_lt, gm_m1, forall_eq, true_and, Nat.not_lt_zero, Nat.add_sub_cancel, gm_z2, gm_z3, gm_z9, gm_z16, gm_z18, gm_z32, gm_z36, gm_z64, gm_z1152, not_true_eq_false, not_false_eq_true, false_implies, true_implies, and_true, implies_true, gm_nb0]
    exact ⟨fun z => absurd z (by omega), fun _ => c2 post J⟩
/-! ===== the form of a method, on both sides ===== -/
theorem fm_both (f_methodCount f_linked f_faultPlace f_flowHeight f_active f_ticksLeft f_outcome f_latestResult : Int32) (a_typeAbove a_fieldSet a_methodType a_methodName a_codeLength a_bytes a_isStart a_heightAt a_kindsAt a_isWaiting a_flowKinds a_globals a_objectType a_fieldValue a_isMarked a_frameMethod a_frameAt a_frameHeight a_slots : Nat → Int32) (g_methods g_place g_result g_linked g_bad g_high g_refs g_active g_ticks g_code : Int32) (b_above b_ownField b_mType b_mName b_mLength b_starts : Nat → Int32) (b_seen b_done : Nat → Int64) (b_heights b_local b_sure b_objType b_objField b_marked b_global b_fMethod b_fPc b_fHigh b_fLocal b_fEntry : Nat → Int32) {m L tc : Nat} {D : Nat → Nat} (hm : m < 8) (hL : L ≤ 32) (ht : tc ≤ 5) (eL : a_codeLength m = nI L) (eL2 : b_mLength m = nI L) (hD : ∀ p, p < 33 → a_bytes (m * 32 + p) = nI (D p) ∧ D p < 256) :
    (∃ q xs ys, q < 32 ∧ fqP tc L D q ∧ (∀ post : Int32 → SX → Prop, post (nI q) (nI tc, f_methodCount, f_linked, f_faultPlace, f_flowHeight, f_active, f_ticksLeft, f_outcome, f_latestResult, a_typeAbove, a_fieldSet, a_methodType, a_methodName, a_codeLength, a_bytes, xs, a_heightAt, a_kindsAt, a_isWaiting, a_flowKinds, a_globals, a_objectType, a_fieldValue, a_isMarked, a_frameMethod, a_frameAt, a_frameHeight, a_slots) → wpX_findFormFault post (nI tc, f_methodCount, f_linked, f_faultPlace, f_flowHeight, f_active, f_ticksLeft, f_outcome, f_latestResult, a_typeAbove, a_fieldSet, a_methodType, a_methodName, a_codeLength, a_bytes, a_isStart, a_heightAt, a_kindsAt, a_isWaiting, a_flowKinds, a_globals, a_objectType, a_fieldValue, a_isMarked, a_frameMethod, a_frameAt, a_frameHeight, a_slots) (nI m)) ∧ (∀ post : Int32 → SY → Prop, post (nI q) (nI tc, g_methods, g_place, g_result, g_linked, g_bad, g_high, g_refs, g_active, g_ticks, g_code, b_above, b_ownField, b_mType, b_mName, b_mLength, a_bytes, ys, b_seen, b_done, b_heights, b_local, b_sure, b_objType, b_objField, b_marked, b_global, b_fMethod, b_fPc, b_fHigh, b_fLocal, b_fEntry) → wpY_formFault post (nI tc, g_methods, g_place, g_result, g_linked, g_bad, g_high, g_refs, g_active, g_ticks, g_code, b_above, b_ownField, b_mType, b_mName, b_mLength, a_bytes, b_starts, b_seen, b_done, b_heights, b_local, b_sure, b_objType, b_objField, b_marked, b_global, b_fMethod, b_fPc, b_fHigh, b_fLocal, b_fEntry) (nI m))) ∨
    (∃ S xs ys, fo_OK tc L D S ∧ fnP tc L D ∧ (∀ post : Int32 → SX → Prop, post (-1) (nI tc, f_methodCount, f_linked, f_faultPlace, f_flowHeight, f_active, f_ticksLeft, f_outcome, f_latestResult, a_typeAbove, a_fieldSet, a_methodType, a_methodName, a_codeLength, a_bytes, xs, a_heightAt, a_kindsAt, a_isWaiting, a_flowKinds, a_globals, a_objectType, a_fieldValue, a_isMarked, a_frameMethod, a_frameAt, a_frameHeight, a_slots) → wpX_findFormFault post (nI tc, f_methodCount, f_linked, f_faultPlace, f_flowHeight, f_active, f_ticksLeft, f_outcome, f_latestResult, a_typeAbove, a_fieldSet, a_methodType, a_methodName, a_codeLength, a_bytes, a_isStart, a_heightAt, a_kindsAt, a_isWaiting, a_flowKinds, a_globals, a_objectType, a_fieldValue, a_isMarked, a_frameMethod, a_frameAt, a_frameHeight, a_slots) (nI m)) ∧ (∀ post : Int32 → SY → Prop, post (-1) (nI tc, g_methods, g_place, g_result, g_linked, g_bad, g_high, g_refs, g_active, g_ticks, g_code, b_above, b_ownField, b_mType, b_mName, b_mLength, a_bytes, ys, b_seen, b_done, b_heights, b_local, b_sure, b_objType, b_objField, b_marked, b_global, b_fMethod, b_fPc, b_fHigh, b_fLocal, b_fEntry) → wpY_formFault post (nI tc, g_methods, g_place, g_result, g_linked, g_bad, g_high, g_refs, g_active, g_ticks, g_code, b_above, b_ownField, b_mType, b_mName, b_mLength, a_bytes, b_starts, b_seen, b_done, b_heights, b_local, b_sure, b_objType, b_objField, b_marked, b_global, b_fMethod, b_fPc, b_fHigh, b_fLocal, b_fEntry) (nI m))) := by
  obtain ⟨ys0, y1, y2⟩ := cl_y12 (nI tc) g_methods g_place g_result g_linked g_bad g_high g_refs g_active g_ticks g_code b_above b_ownField b_mType b_mName b_mLength a_bytes b_seen b_done b_heights b_local b_sure b_objType b_objField b_marked b_global b_fMethod b_fPc b_fHigh b_fLocal b_fEntry (nI m) (nI L) 0 32 0 rfl b_starts (fun q z => absurd z (by omega))
  have hYs : ∀ post : Int32 → SY → Prop, (((nI L = 0 → (post 0 (nI tc, g_methods, g_place, g_result, g_linked, g_bad, g_high, g_refs, g_active, g_ticks, g_code, b_above, b_ownField, b_mType, b_mName, b_mLength, a_bytes, ys0, b_seen, b_done, b_heights, b_local, b_sure, b_objType, b_objField, b_marked, b_global, b_fMethod, b_fPc, b_fHigh, b_fLocal, b_fEntry))) ∧ (¬ nI L = 0 → (∃ n39 : Nat, wY_formFault_39 post (nI m) (nI L) (nI tc) g_methods g_place g_result g_linked g_bad g_high g_refs g_active g_ticks g_code n39 0 b_above b_ownField b_mType b_mName b_mLength a_bytes ys0 b_seen b_done b_heights b_local b_sure b_objType b_objField b_marked b_global b_fMethod b_fPc b_fHigh b_fLocal b_fEntry)))) → wpY_formFault post (nI tc, g_methods, g_place, g_result, g_linked, g_bad, g_high, g_refs, g_active, g_ticks, g_code, b_above, b_ownField, b_mType, b_mName, b_mLength, a_bytes, b_starts, b_seen, b_done, b_heights, b_local, b_sure, b_objType, b_objField, b_marked, b_global, b_fMethod, b_fPc, b_fHigh, b_fLocal, b_fEntry) (nI m) := by
    intro post J
    unfold wpY_formFault
    refine ⟨vp_in_nI hm (by omega), nm_r (by rw [nI_clamp (by omega), eL2]) ⟨33, y2 post J⟩⟩
  by_cases hL0 : L = 0
  · subst hL0
    refine Or.inl ⟨0, a_isStart, ys0, by omega, Or.inl ⟨rfl, rfl⟩, fun post J => ?_, fun post J => hYs post (br_t rfl J)⟩
    unfold wpX_findFormFault
    refine ⟨vp_in_nI hm (by omega), br_t (by rw [nI_clamp (by omega), eL]; rfl) J⟩
  · have nL : ¬ nI L = 0 := nI_ne0 (by omega) (by omega)
    obtain ⟨xs0, x1, x2⟩ := cl_x7 (nI tc) f_methodCount f_linked f_faultPlace f_flowHeight f_active f_ticksLeft f_outcome f_latestResult a_typeAbove a_fieldSet a_methodType a_methodName a_codeLength a_bytes a_heightAt a_kindsAt a_isWaiting a_flowKinds a_globals a_objectType a_fieldValue a_isMarked a_frameMethod a_frameAt a_frameHeight a_slots hm 32 0 rfl a_isStart (fun q z => absurd z (by omega))
    have hXs : ∀ post : Int32 → SX → Prop, (∃ n, wX_findByteFault_30 post (nI m) (nI (m * 32)) (nI tc) f_methodCount f_linked f_faultPlace f_flowHeight f_active f_ticksLeft f_outcome f_latestResult n 0 a_typeAbove a_fieldSet a_methodType a_methodName a_codeLength a_bytes xs0 a_heightAt a_kindsAt a_isWaiting a_flowKinds a_globals a_objectType a_fieldValue a_isMarked a_frameMethod a_frameAt a_frameHeight a_slots) → wpX_findByteFault post (nI tc, f_methodCount, f_linked, f_faultPlace, f_flowHeight, f_active, f_ticksLeft, f_outcome, f_latestResult, a_typeAbove, a_fieldSet, a_methodType, a_methodName, a_codeLength, a_bytes, a_isStart, a_heightAt, a_kindsAt, a_isWaiting, a_flowKinds, a_globals, a_objectType, a_fieldValue, a_isMarked, a_frameMethod, a_frameAt, a_frameHeight, a_slots) (nI m) := by
      intro post J
      unfold wpX_findByteFault
      exact nm_r (pk_mul m 32) ⟨33, x2 post J⟩
    have hXf : ∀ post : Int32 → SX → Prop, wpX_findByteFault (fun r u => match u with | (f_typeCount1, f_methodCount1, f_linked1, f_faultPlace1, f_flowHeight1, f_active1, f_ticksLeft1, f_outcome1, f_latestResult1, a_typeAbove1, a_fieldSet1, a_methodType1, a_methodName1, a_codeLength1, a_bytes1, a_isStart1, a_heightAt1, a_kindsAt1, a_isWaiting1, a_flowKinds1, a_globals1, a_objectType1, a_fieldValue1, a_isMarked1, a_frameMethod1, a_frameAt1, a_frameHeight1, a_slots1) => (((r = (-1) → (wpX_findJumpFault (fun r_33 => (post r_33 (f_typeCount1, f_methodCount1, f_linked1, f_faultPlace1, f_flowHeight1, f_active1, f_ticksLeft1, f_outcome1, f_latestResult1, a_typeAbove1, a_fieldSet1, a_methodType1, a_methodName1, a_codeLength1, a_bytes1, a_isStart1, a_heightAt1, a_kindsAt1, a_isWaiting1, a_flowKinds1, a_globals1, a_objectType1, a_fieldValue1, a_isMarked1, a_frameMethod1, a_frameAt1, a_frameHeight1, a_slots1))) (f_typeCount1, f_methodCount1, f_linked1, f_faultPlace1, f_flowHeight1, f_active1, f_ticksLeft1, f_outcome1, f_latestResult1, a_typeAbove1, a_fieldSet1, a_methodType1, a_methodName1, a_codeLength1, a_bytes1, a_isStart1, a_heightAt1, a_kindsAt1, a_isWaiting1, a_flowKinds1, a_globals1, a_objectType1, a_fieldValue1, a_isMarked1, a_frameMethod1, a_frameAt1, a_frameHeight1, a_slots1) (nI m))) ∧ (¬ r = (-1) → (post r (f_typeCount1, f_methodCount1, f_linked1, f_faultPlace1, f_flowHeight1, f_active1, f_ticksLeft1, f_outcome1, f_latestResult1, a_typeAbove1, a_fieldSet1, a_methodType1, a_methodName1, a_codeLength1, a_bytes1, a_isStart1, a_heightAt1, a_kindsAt1, a_isWaiting1, a_flowKinds1, a_globals1, a_objectType1, a_fieldValue1, a_isMarked1, a_frameMethod1, a_frameAt1, a_frameHeight1, a_slots1)))))) (nI tc, f_methodCount, f_linked, f_faultPlace, f_flowHeight, f_active, f_ticksLeft, f_outcome, f_latestResult, a_typeAbove, a_fieldSet, a_methodType, a_methodName, a_codeLength, a_bytes, a_isStart, a_heightAt, a_kindsAt, a_isWaiting, a_flowKinds, a_globals, a_objectType, a_fieldValue, a_isMarked, a_frameMethod, a_frameAt, a_frameHeight, a_slots) (nI m) → wpX_findFormFault post (nI tc, f_methodCount, f_linked, f_faultPlace, f_flowHeight, f_active, f_ticksLeft, f_outcome, f_latestResult, a_typeAbove, a_fieldSet, a_methodType, a_methodName, a_codeLength, a_bytes, a_isStart, a_heightAt, a_kindsAt, a_isWaiting, a_flowKinds, a_globals, a_objectType, a_fieldValue, a_isMarked, a_frameMethod, a_frameAt, a_frameHeight, a_slots) (nI m) := by
      intro post J
      unfold wpX_findFormFault
      exact ⟨vp_in_nI hm (by omega), br_f (by rw [nI_clamp (by omega), eL]; exact nL) J⟩
    have I0 : fbI m L tc 0 D xs0 ys0 := ⟨by omega, fun q hq => by rw [x1 q hq, y1 q hq], fun q _ hq => y1 q hq, fun q z => absurd z (by omega), Or.inl rfl, fun q z => absurd z (by omega), rfl⟩
    rcases fb_both f_methodCount f_linked f_faultPlace f_flowHeight f_active f_ticksLeft f_outcome f_latestResult a_typeAbove a_fieldSet a_methodType a_methodName a_codeLength a_bytes a_heightAt a_kindsAt a_isWaiting a_flowKinds a_globals a_objectType a_fieldValue a_isMarked a_frameMethod a_frameAt a_frameHeight a_slots g_methods g_place g_result g_linked g_bad g_high g_refs g_active g_ticks g_code b_above b_ownField b_mType b_mName b_mLength b_seen b_done b_heights b_local b_sure b_objType b_objField b_marked b_global b_fMethod b_fPc b_fHigh b_fLocal b_fEntry hm hL ht eL hD L 0 (by omega) xs0 ys0 I0 with ⟨q, xs', ys', hq, hfq, hX, hY⟩ | ⟨xs', ys', hI, hX, hY⟩
    · refine Or.inl ⟨q, xs', ys', hq, Or.inr (Or.inl ⟨by omega, hfq⟩), fun post J => hXf post (hXs _ ⟨L + 1, hX _ (br_f ?_ J)⟩), fun post J => hYs post (br_f nL ⟨L + 1, hY post J⟩)⟩
      rw [gm_m1 (by omega)]; exact id
    · have nbf : ∀ p, p < L → stt D p = true → ¬ bfP tc L D p := fun p hp hs z => by
        obtain ⟨b1, b2, b3, b4⟩ := hI.2.2.2.1 p hp ((hI.2.2.2.2.2.1 p hp).mpr hs)
        exact z ⟨b1, b3, b2⟩
      rcases jf_both (nI tc) f_methodCount f_linked f_faultPlace f_flowHeight f_active f_ticksLeft f_outcome f_latestResult a_typeAbove a_fieldSet a_methodType a_methodName a_codeLength a_bytes xs' a_heightAt a_kindsAt a_isWaiting a_flowKinds a_globals a_objectType a_fieldValue a_isMarked a_frameMethod a_frameAt a_frameHeight a_slots (nI tc) g_methods g_place g_result g_linked g_bad g_high g_refs g_active g_ticks g_code b_above b_ownField b_mType b_mName b_mLength ys' b_seen b_done b_heights b_local b_sure b_objType b_objField b_marked b_global b_fMethod b_fPc b_fHigh b_fLocal b_fEntry hm hL eL hD hI L 0 (by omega) (fun q z => absurd z (by omega)) with ⟨q, hq, hfq, jX, jY⟩ | ⟨hJ, jX, jY⟩
      · refine Or.inl ⟨q, xs', ys', hq, Or.inr (Or.inr ⟨by omega, nbf, hfq⟩), fun post J => hXf post (hXs _ ⟨L + 1, hX _ (br_t rfl ?_)⟩), fun post J => hYs post (br_f nL ⟨L + 1, hY post ⟨L + 1, jY post J⟩⟩)⟩
        unfold wpX_findJumpFault
        exact nm_r (pk_mul m 32) ⟨L + 1, jX _ J⟩
      · have hst : ∀ r, r < L → (ys' r ≠ 0 ↔ stt D r = true) := hI.2.2.2.2.2.1
        refine Or.inr ⟨fun p => ys' p ≠ 0, xs', ys', ?_, ⟨by omega, nbf, fun p hp hs z => ?_⟩, fun post J => hXf post (hXs _ ⟨L + 1, hX _ (br_t rfl ?_)⟩), fun post J => hYs post (br_f nL ⟨L + 1, hY post ⟨L + 1, jY post J⟩⟩)⟩
        · obtain ⟨-, i2, i3, i4, i5, -⟩ := hI
          refine ⟨by omega, hL, ?_, fun p hp hs => ?_⟩
          · rcases i5 with z | z
            · exact absurd z hL0
            · exact z
          · obtain ⟨k1, k2, k3, k4⟩ := i4 p hp hs
            exact ⟨k1, k3, k4, k2, hJ p hp hs⟩
        · obtain ⟨z1, z2⟩ := hJ p hp ((hst p hp).mpr hs) z.1
          exact z.2 ⟨z1, (hst _ z1).mp z2⟩
        · unfold wpX_findJumpFault
          exact nm_r (pk_mul m 32) ⟨L + 1, jX _ J⟩
