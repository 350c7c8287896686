/-! ===== the first bytes as a function, and what the form's faults are ===== -/
def stt (D : Nat → Nat) : Nat → Bool
  | 0 => true
  | 1 => decide (is_sz (D 0) = 1)
  | q + 2 => (stt D (q + 1) && decide (is_sz (D (q + 1)) = 1)) || (stt D q && decide (is_sz (D q) = 2))
theorem is_sz12 (o : Nat) : is_sz o = 1 ∨ is_sz o = 2 := by unfold is_sz; split <;> simp
theorem stt_1 {D : Nat → Nat} {q : Nat} (h : stt D q = true) (e : is_sz (D q) = 1) : stt D (q + 1) = true := by
  cases q with
  | zero => unfold stt; simp [e]
  | succ q => unfold stt; simp [h, e]
theorem stt_2 {D : Nat → Nat} {q : Nat} (h : stt D q = true) (e : is_sz (D q) = 2) : stt D (q + 2) = true := by
  unfold stt; simp [h, e]
theorem stt_n {D : Nat → Nat} : ∀ q, stt D q = true → is_sz (D q) = 2 → stt D (q + 1) = false
  | 0, _, e => by unfold stt; simp [e]
  | q + 1, h, e => by
    cases h2 : stt D (q + 1 + 1)
    · rfl
    · exfalso
      unfold stt at h2
      simp only [Bool.or_eq_true, Bool.and_eq_true, decide_eq_true_eq] at h2
      rcases h2 with ⟨-, z⟩ | ⟨z1, z2⟩
      · omega
      · rw [stt_n q z1 z2] at h
        exact nomatch h
def bfP (tc L : Nat) (D : Nat → Nat) (p : Nat) : Prop := ¬ (D p < 21 ∧ p + is_sz (D p) ≤ L ∧ (is_sg (D p) = false → is_opd tc (D p) (D (p + 1))))
def jbP (L : Nat) (D : Nat → Nat) (p : Nat) : Prop := (D p = 10 ∨ D p = 11) ∧ ¬ (D (p + 1) < L ∧ stt D (D (p + 1)) = true)
/-- q is the first byte of the first instruction that has a fault -/
def fqP (tc L : Nat) (D : Nat → Nat) (q : Nat) : Prop := (L = 0 ∧ q = 0) ∨ (0 < L ∧ q < L ∧ stt D q = true ∧ bfP tc L D q ∧ ∀ p, p < q → stt D p = true → ¬ bfP tc L D p) ∨ (0 < L ∧ (∀ p, p < L → stt D p = true → ¬ bfP tc L D p) ∧ q < L ∧ stt D q = true ∧ jbP L D q ∧ ∀ p, p < q → stt D p = true → ¬ jbP L D p)
def fnP (tc L : Nat) (D : Nat → Nat) : Prop := 0 < L ∧ (∀ p, p < L → stt D p = true → ¬ bfP tc L D p) ∧ ∀ p, p < L → stt D p = true → ¬ jbP L D p
theorem fq_u {tc L q q' : Nat} {D : Nat → Nat} (a : fqP tc L D q) (b : fqP tc L D q') : q = q' := by
  rcases a with ⟨a1, a2⟩ | ⟨a1, a2, a3, a4, a5⟩ | ⟨a1, a2, a3, a4, a5, a6⟩
  · rcases b with ⟨b1, b2⟩ | ⟨b1, -⟩ | ⟨b1, -⟩ <;> omega
  · rcases b with ⟨b1, b2⟩ | ⟨b1, b2, b3, b4, b5⟩ | ⟨b1, b2, -⟩
    · omega
    · rcases Nat.lt_trichotomy q q' with z | z | z
      · exact absurd a4 (b5 q z a3)
      · exact z
      · exact absurd b4 (a5 q' z b3)
    · exact absurd a4 (b2 q a2 a3)
  · rcases b with ⟨b1, b2⟩ | ⟨b1, b2, b3, b4, b5⟩ | ⟨b1, b2, b3, b4, b5, b6⟩
    · omega
    · exact absurd b4 (a2 q' b2 b3)
    · rcases Nat.lt_trichotomy q q' with z | z | z
      · exact absurd a5 (b6 q z a4)
      · exact z
      · exact absurd b5 (a6 q' z b4)
theorem fq_n {tc L q : Nat} {D : Nat → Nat} (a : fqP tc L D q) (b : fnP tc L D) : False := by
  obtain ⟨b1, b2, b3⟩ := b
  rcases a with ⟨a1, a2⟩ | ⟨a1, a2, a3, a4, a5⟩ | ⟨a1, a2, a3, a4, a5, a6⟩
  · omega
  · exact b2 q a2 a3 a4
  · exact b3 q a3 a4 a5
/-! ===== the instructions' first bytes, on both sides ===== -/
def fbI (m L tc p : Nat) (D : Nat → Nat) (xs ys : Nat → Int32) : Prop := p ≤ L ∧ (∀ q, q < 32 → xs (m * 32 + q) = ys q) ∧ (∀ q, p ≤ q → q < 32 → ys q = 0) ∧ (∀ q, q < p → ys q ≠ 0 → D q < 21 ∧ (is_sg (D q) = false → is_opd tc (D q) (D (q + 1))) ∧ q + is_sz (D q) ≤ p ∧ (q + is_sz (D q) < p → ys (q + is_sz (D q)) ≠ 0)) ∧ (p = 0 ∨ ys 0 ≠ 0) ∧ (∀ q, q < p → (ys q ≠ 0 ↔ stt D q = true)) ∧ stt D p = true
theorem fbI_s {m L tc p : Nat} {D : Nat → Nat} {xs ys : Nat → Int32} (I : fbI m L tc p D xs ys) (h21 : D p < 21) (ho : is_sg (D p) = false → is_opd tc (D p) (D (p + 1))) (hz : p + is_sz (D p) ≤ L) (hp : p < 32) (hL : L ≤ 32) : fbI m L tc (p + is_sz (D p)) D (upd xs (m * 32 + p) 1) (upd ys p 1) := by
  obtain ⟨a1, a2, a3, a4, a5, a6, a7⟩ := I
  have hsz : is_sz (D p) = 1 ∨ is_sz (D p) = 2 := by unfold is_sz; split <;> simp
  refine ⟨hz, fun q hq => ?_, fun q h1 h2 => ?_, fun q h1 h2 => ?_, ?_, fun q h1 => ?_, ?_⟩
  · by_cases e : q = p
    · subst e; rw [pk_us, pk_us]
    · rw [pk_un (by omega), pk_un e]; exact a2 q hq
  · rw [pk_un (by omega)]; exact a3 q (by omega) h2
  · by_cases e : q = p
    · subst e
      exact ⟨h21, ho, by omega, fun z => absurd z (by omega)⟩
    · rw [pk_un e] at h2
      by_cases hq : q < p
      · obtain ⟨b1, b2, b3, b4⟩ := a4 q hq h2
        refine ⟨b1, b2, by omega, fun z => ?_⟩
        by_cases e2 : q + is_sz (D q) = p
        · rw [e2, pk_us]; decide
        · rw [pk_un e2]; exact b4 (by omega)
      · exact absurd (a3 q (by omega) (by omega)) h2
  · right
    rcases a5 with z | z
    · subst z; rw [pk_us]; decide
    · by_cases e : p = 0
      · subst e; rw [pk_us]; decide
      · rw [pk_un (by omega)]; exact z
  · by_cases e : q = p
    · subst e
      rw [pk_us]
      exact ⟨fun _ => a7, fun _ => by decide⟩
    · rw [pk_un e]
      by_cases hq : q < p
      · exact a6 q hq
      · have e2 : is_sz (D p) = 2 := by omega
        have e3 : q = p + 1 := by omega
        subst e3
        rw [stt_n p a7 e2]
        refine ⟨fun z => absurd (a3 (p + 1) (by omega) (by omega)) z, fun z => nomatch z⟩
  · rcases hsz with e | e
    · rw [e]; exact stt_1 a7 e
    · rw [e]; exact stt_2 a7 e
theorem fb_both (f_methodCount f_linked f_faultPlace f_flowHeight f_active f_ticksLeft f_outcome f_latestResult : Int32) (a_typeAbove a_fieldSet a_methodType a_methodName a_codeLength a_bytes a_heightAt a_kindsAt a_isWaiting a_flowKinds a_globals a_objectType a_fieldValue a_isMarked a_frameMethod a_frameAt a_frameHeight a_slots : Nat → Int32) (g_methods g_place g_result g_linked g_bad g_high g_refs g_active g_ticks g_code : Int32) (b_above b_ownField b_mType b_mName b_mLength : Nat → Int32) (b_seen b_done : Nat → Int64) (b_heights b_local b_sure b_objType b_objField b_marked b_global b_fMethod b_fPc b_fHigh b_fLocal b_fEntry : Nat → Int32) {m L tc : Nat} {D : Nat → Nat} (hm : m < 8) (hL : L ≤ 32) (ht : tc ≤ 5) (eL : a_codeLength m = nI L) (hD : ∀ p, p < 33 → a_bytes (m * 32 + p) = nI (D p) ∧ D p < 256) :
    ∀ d p, L ≤ p + d → ∀ xs ys, fbI m L tc p D xs ys →
    (∃ q xs' ys', q < 32 ∧ (q < L ∧ stt D q = true ∧ bfP tc L D q ∧ ∀ p, p < q → stt D p = true → ¬ bfP tc L D p) ∧ (∀ post : Int32 → SX → Prop, post (nI q) (nI tc, f_methodCount, f_linked, f_faultPlace, f_flowHeight, f_active, f_ticksLeft, f_outcome, f_latestResult, a_typeAbove, a_fieldSet, a_methodType, a_methodName, a_codeLength, a_bytes, xs', a_heightAt, a_kindsAt, a_isWaiting, a_flowKinds, a_globals, a_objectType, a_fieldValue, a_isMarked, a_frameMethod, a_frameAt, a_frameHeight, a_slots) → wX_findByteFault_30 post (nI m) (nI (m * 32)) (nI tc) f_methodCount f_linked f_faultPlace f_flowHeight f_active f_ticksLeft f_outcome f_latestResult (d + 1) (nI p) a_typeAbove a_fieldSet a_methodType a_methodName a_codeLength a_bytes xs a_heightAt a_kindsAt a_isWaiting a_flowKinds a_globals a_objectType a_fieldValue a_isMarked a_frameMethod a_frameAt a_frameHeight a_slots) ∧ (∀ post : Int32 → SY → Prop, post (nI q) (nI tc, g_methods, g_place, g_result, g_linked, g_bad, g_high, g_refs, g_active, g_ticks, g_code, b_above, b_ownField, b_mType, b_mName, b_mLength, a_bytes, ys', b_seen, b_done, b_heights, b_local, b_sure, b_objType, b_objField, b_marked, b_global, b_fMethod, b_fPc, b_fHigh, b_fLocal, b_fEntry) → wY_formFault_39 post (nI m) (nI L) (nI tc) g_methods g_place g_result g_linked g_bad g_high g_refs g_active g_ticks g_code (d + 1) (nI p) b_above b_ownField b_mType b_mName b_mLength a_bytes ys b_seen b_done b_heights b_local b_sure b_objType b_objField b_marked b_global b_fMethod b_fPc b_fHigh b_fLocal b_fEntry)) ∨
    (∃ xs' ys', fbI m L tc L D xs' ys' ∧ (∀ post : Int32 → SX → Prop, post (-1) (nI tc, f_methodCount, f_linked, f_faultPlace, f_flowHeight, f_active, f_ticksLeft, f_outcome, f_latestResult, a_typeAbove, a_fieldSet, a_methodType, a_methodName, a_codeLength, a_bytes, xs', a_heightAt, a_kindsAt, a_isWaiting, a_flowKinds, a_globals, a_objectType, a_fieldValue, a_isMarked, a_frameMethod, a_frameAt, a_frameHeight, a_slots) → wX_findByteFault_30 post (nI m) (nI (m * 32)) (nI tc) f_methodCount f_linked f_faultPlace f_flowHeight f_active f_ticksLeft f_outcome f_latestResult (d + 1) (nI p) a_typeAbove a_fieldSet a_methodType a_methodName a_codeLength a_bytes xs a_heightAt a_kindsAt a_isWaiting a_flowKinds a_globals a_objectType a_fieldValue a_isMarked a_frameMethod a_frameAt a_frameHeight a_slots) ∧ (∀ post : Int32 → SY → Prop, (∃ n, wY_formFault_198 post (nI m) (nI L) (nI tc) g_methods g_place g_result g_linked g_bad g_high g_refs g_active g_ticks g_code b_above b_ownField b_mType b_mName b_mLength a_bytes ys' b_seen b_done b_heights b_local b_sure b_objType b_objField b_marked b_global b_fMethod b_fPc b_fHigh b_fLocal b_fEntry n 0) → wY_formFault_39 post (nI m) (nI L) (nI tc) g_methods g_place g_result g_linked g_bad g_high g_refs g_active g_ticks g_code (d + 1) (nI p) b_above b_ownField b_mType b_mName b_mLength a_bytes ys b_seen b_done b_heights b_local b_sure b_objType b_objField b_marked b_global b_fMethod b_fPc b_fHigh b_fLocal b_fEntry)) := by
  intro d
  induction d with
  | zero =>
    intro p hp xs ys I
    have e : p = L := by have := I.1; omega
    subst e
    refine Or.inr ⟨xs, ys, I, fun post J => ?_, fun post J => ?_⟩
    · unfold wX_findByteFault_30
      simp (disch := omega) only [nI_clamp, gm_clL, gm_in, gm_inL, gm_ml, gm_al, gm_la, gm_sl, nI_add, pk_mul, gm_eqL, gm_leL, gm_ltL, gm_Lle, gm_Llt, gm_eq, gm_le, gm_lt, gm_m1, forall_eq, true_and, Nat.not_lt_zero, Nat.add_sub_cancel, gm_z2, gm_z3, gm_z9, gm_z16, gm_z18, gm_z32, gm_z36, gm_z64, gm_z1152, not_true_eq_false, not_false_eq_true, false_implies, true_implies, and_true, implies_true, eL]
      exact ⟨fun _ => J, fun z => absurd (Nat.le_refl _) z⟩
    · unfold wY_formFault_39
      simp (disch := omega) only [nI_clamp, gm_clL, gm_in, gm_inL, gm_ml, gm_al, gm_la, gm_sl, nI_add, pk_mul, gm_eqL, gm_leL, gm_ltL, gm_Lle, gm_Llt, gm_eq, gm_le, gm_lt, gm_m1, forall_eq, true_and, Nat.not_lt_zero, Nat.add_sub_cancel, gm_z2, gm_z3, gm_z9, gm_z16, gm_z18, gm_z32, gm_z36, gm_z64, gm_z1152, not_true_eq_false, not_false_eq_true, false_implies, true_implies, and_true, implies_true]
      exact ⟨fun _ => J, fun z => absurd (Nat.le_refl _) z⟩
  | succ d ih =>
    intro p hp xs ys I
    by_cases hpL : p = L
    · subst hpL
      refine Or.inr ⟨xs, ys, I, fun post J => ?_, fun post J => ?_⟩
      · unfold wX_findByteFault_30
        simp (disch := omega) only [nI_clamp, gm_clL, gm_in, gm_inL, gm_ml, gm_al, gm_la, gm_sl, nI_add, pk_mul, gm_eqL, gm_leL, gm_ltL, gm_Lle, gm_Llt, gm_eq, gm_le, gm_lt, gm_m1, forall_eq, true_and, Nat.not_lt_zero, Nat.add_sub_cancel, gm_z2, gm_z3, gm_z9, gm_z16, gm_z18, gm_z32, gm_z36, gm_z64, gm_z1152, not_true_eq_false, not_false_eq_true, false_implies, true_implies, and_true, implies_true, eL]
        exact ⟨fun _ => J, fun z => absurd (Nat.le_refl _) z⟩
      · unfold wY_formFault_39
        simp (disch := omega) only [nI_clamp, gm_clL, gm_in, gm_inL, gm_ml, gm_al, gm_la, gm_sl, nI_add, pk_mul, gm_eqL, gm_leL, gm_ltL, gm_Lle, gm_Llt, gm_eq, gm_le, gm_lt, gm_m1, forall_eq, true_and, Nat.not_lt_zero, Nat.add_sub_cancel, gm_z2, gm_z3, gm_z9, gm_z16, gm_z18, gm_z32, gm_z36, gm_z64, gm_z1152, not_true_eq_false, not_false_eq_true, false_implies, true_implies, and_true, implies_true]
        exact ⟨fun _ => J, fun z => absurd (Nat.le_refl _) z⟩
    · have hp2 : p < L := by have := I.1; omega
      have bfOld : ∀ q, q < p → stt D q = true → ¬ bfP tc L D q := fun q hq hs z => by
        obtain ⟨b1, b2, b3, b4⟩ := I.2.2.2.1 q hq ((I.2.2.2.2.2.1 q hq).mpr hs)
        exact z ⟨b1, by omega, b2⟩
      have hsp := I.2.2.2.2.2.2
      obtain ⟨eD, hD2⟩ := hD p (by omega)
      obtain ⟨eD1, hD3⟩ := hD (p + 1) (by omega)
      rw [show m * 32 + (p + 1) = m * 32 + p + 1 by omega] at eD1
      have szE : is_sz (D p) = if is_sg (D p) = true then 1 else 2 := rfl
      -- no code
      by_cases h21 : D p < 21
      · have sX : ∀ post : Int32 → SX → Prop, (∀ xs', (is_sz (D p) = 2 → L < p + 2 → post (nI p) (nI tc, f_methodCount, f_linked, f_faultPlace, f_flowHeight, f_active, f_ticksLeft, f_outcome, f_latestResult, a_typeAbove, a_fieldSet, a_methodType, a_methodName, a_codeLength, a_bytes, xs', a_heightAt, a_kindsAt, a_isWaiting, a_flowKinds, a_globals, a_objectType, a_fieldValue, a_isMarked, a_frameMethod, a_frameAt, a_frameHeight, a_slots))) → (is_sz (D p) = 2 → p + 2 ≤ L → ¬ is_opd tc (D p) (D (p + 1)) → post (nI p) (nI tc, f_methodCount, f_linked, f_faultPlace, f_flowHeight, f_active, f_ticksLeft, f_outcome, f_latestResult, a_typeAbove, a_fieldSet, a_methodType, a_methodName, a_codeLength, a_bytes, xs, a_heightAt, a_kindsAt, a_isWaiting, a_flowKinds, a_globals, a_objectType, a_fieldValue, a_isMarked, a_frameMethod, a_frameAt, a_frameHeight, a_slots)) → ((p + is_sz (D p) ≤ L) → (is_sg (D p) = false → is_opd tc (D p) (D (p + 1))) → wX_findByteFault_30 post (nI m) (nI (m * 32)) (nI tc) f_methodCount f_linked f_faultPlace f_flowHeight f_active f_ticksLeft f_outcome f_latestResult (d + 1) (nI (p + is_sz (D p))) a_typeAbove a_fieldSet a_methodType a_methodName a_codeLength a_bytes (upd xs (m * 32 + p) 1) a_heightAt a_kindsAt a_isWaiting a_flowKinds a_globals a_objectType a_fieldValue a_isMarked a_frameMethod a_frameAt a_frameHeight a_slots) → wX_findByteFault_30 post (nI m) (nI (m * 32)) (nI tc) f_methodCount f_linked f_faultPlace f_flowHeight f_active f_ticksLeft f_outcome f_latestResult (d + 1 + 1) (nI p) a_typeAbove a_fieldSet a_methodType a_methodName a_codeLength a_bytes xs a_heightAt a_kindsAt a_isWaiting a_flowKinds a_globals a_objectType a_fieldValue a_isMarked a_frameMethod a_frameAt a_frameHeight a_slots := by
          intro post J1 J2 J3
          unfold wX_findByteFault_30
          simp (disch := omega) only [nI_clamp, gm_clL, gm_in, gm_inL, gm_ml, gm_al, gm_la, gm_sl, nI_add, pk_mul, gm_eqL, gm_leL, gm_ltL, gm_Lle, gm_Llt, gm_eq, gm_le, gm_lt, gm_m1, forall_eq, true_and, Nat.not_lt_zero, Nat.add_sub_cancel, gm_z2, gm_z3, gm_z9, gm_z16, gm_z18, gm_z32, gm_z36, gm_z64, gm_z1152, not_true_eq_false, not_false_eq_true, false_implies, true_implies, and_true, implies_true, eL, eD]
          refine ⟨fun z => absurd z (by omega), fun _ => ⟨fun _ => ev_sizeOf (by omega) ?_, fun z => absurd (show D p ≤ 20 by omega) z⟩⟩
          unfold wX_findByteFault_108
          cases hsg : is_sg (D p)
          · have e2 : is_sz (D p) = 2 := by rw [szE, hsg]; rfl
            rw [e2] at J1 J2 J3 ⊢
            simp (disch := omega) only [nI_clamp, gm_clL, gm_in, gm_inL, gm_ml, gm_al, gm_la, gm_sl, nI_add, pk_mul, gm_eqL, gm_leL, gm_ltL, gm_Lle, gm_Llt, gm_eq, gm_le, gm_lt, gm_m1, forall_eq, true_and, Nat.not_lt_zero, Nat.add_sub_cancel, gm_z2, gm_z3, gm_z9, gm_z16, gm_z18, gm_z32, gm_z36, gm_z64, gm_z1152, not_true_eq_false, not_false_eq_true, false_implies, true_implies, and_true, implies_true, gm_z1, Nat.reduceEqDiff, Nat.reduceLT, Nat.reduceLeDiff, Nat.reduceAdd, Nat.reduceMul, Nat.reduceSub, eL, eD1, gm_nb1]
            refine ⟨fun h => ⟨vp_in_nI (by omega) (by omega), ev_opd f_methodCount f_linked f_faultPlace f_flowHeight f_active f_ticksLeft f_outcome f_latestResult a_typeAbove a_fieldSet a_methodType a_methodName a_codeLength a_bytes xs a_heightAt a_kindsAt a_isWaiting a_flowKinds a_globals a_objectType a_fieldValue a_isMarked a_frameMethod a_frameAt a_frameHeight a_slots h21 hsg (by omega) ht (fun h2 => br_f (by decide) ?_) (fun h2 => br_t (by decide) (J2 rfl h h2))⟩, fun h => J1 xs rfl (by omega)⟩
            exact J3 h (fun _ => h2)
          · have e2 : is_sz (D p) = 1 := by rw [szE, hsg]; rfl
            rw [e2] at J1 J2 J3 ⊢
            simp (disch := omega) only [nI_clamp, gm_clL, gm_in, gm_inL, gm_ml, gm_al, gm_la, gm_sl, nI_add, pk_mul, gm_eqL, gm_leL, gm_ltL, gm_Lle, gm_Llt, gm_eq, gm_le, gm_lt, gm_m1, forall_eq, true_and, Nat.not_lt_zero, Nat.add_sub_cancel, gm_z2, gm_z3, gm_z9, gm_z16, gm_z18, gm_z32, gm_z36, gm_z64, gm_z1152, not_true_eq_false, not_false_eq_true, false_implies, true_implies, and_true, implies_true, gm_z1, Nat.reduceEqDiff, Nat.reduceLT, Nat.reduceLeDiff, Nat.reduceAdd, Nat.reduceMul, Nat.reduceSub, eL, eD1, gm_nb1]
            refine ⟨fun h => ?_, fun z => absurd (show p + 1 ≤ L by omega) z⟩
            exact J3 h (fun z => by rw [hsg] at z; exact nomatch z)
        have sY : ∀ post : Int32 → SY → Prop, (is_sz (D p) = 2 → L < p + 2 → post (nI p) (nI tc, g_methods, g_place, g_result, g_linked, g_bad, g_high, g_refs, g_active, g_ticks, g_code, b_above, b_ownField, b_mType, b_mName, b_mLength, a_bytes, upd ys p 1, b_seen, b_done, b_heights, b_local, b_sure, b_objType, b_objField, b_marked, b_global, b_fMethod, b_fPc, b_fHigh, b_fLocal, b_fEntry)) → (is_sz (D p) = 2 → p + 2 ≤ L → ¬ is_opd tc (D p) (D (p + 1)) → post (nI p) (nI tc, g_methods, g_place, g_result, g_linked, g_bad, g_high, g_refs, g_active, g_ticks, g_code, b_above, b_ownField, b_mType, b_mName, b_mLength, a_bytes, upd ys p 1, b_seen, b_done, b_heights, b_local, b_sure, b_objType, b_objField, b_marked, b_global, b_fMethod, b_fPc, b_fHigh, b_fLocal, b_fEntry)) → ((p + is_sz (D p) ≤ L) → (is_sg (D p) = false → is_opd tc (D p) (D (p + 1))) → wY_formFault_39 post (nI m) (nI L) (nI tc) g_methods g_place g_result g_linked g_bad g_high g_refs g_active g_ticks g_code (d + 1) (nI (p + is_sz (D p))) b_above b_ownField b_mType b_mName b_mLength a_bytes (upd ys p 1) b_seen b_done b_heights b_local b_sure b_objType b_objField b_marked b_global b_fMethod b_fPc b_fHigh b_fLocal b_fEntry) → wY_formFault_39 post (nI m) (nI L) (nI tc) g_methods g_place g_result g_linked g_bad g_high g_refs g_active g_ticks g_code (d + 1 + 1) (nI p) b_above b_ownField b_mType b_mName b_mLength a_bytes ys b_seen b_done b_heights b_local b_sure b_objType b_objField b_marked b_global b_fMethod b_fPc b_fHigh b_fLocal b_fEntry := by
          intro post J1 J2 J3
          unfold wY_formFault_39
          simp (disch := omega) only [nI_clamp, gm_clL, gm_in, gm_inL, gm_ml, gm_al, gm_la, gm_sl, nI_add, pk_mul, gm_eqL, gm_leL, gm_ltL, gm_Lle, gm_Llt, gm_eq, gm_le, gm_lt, gm_m1, forall_eq, true_and, Nat.not_lt_zero, Nat.add_sub_cancel, gm_z2, gm_z3, gm_z9, gm_z16, gm_z18, gm_z32, gm_z36, gm_z64, gm_z1152, not_true_eq_false, not_false_eq_true, false_implies, true_implies, and_true, implies_true, eD, gm_nb1]
          refine ⟨fun z => absurd z (by omega), fun _ => ⟨fun _ => ev_single (by omega) ?_, fun z => absurd (show D p ≤ 20 by omega) z⟩⟩
          cases hsg : is_sg (D p)
          · have e2 : is_sz (D p) = 2 := by rw [szE, hsg]; rfl
            rw [e2] at J1 J2 J3
            refine br_t rfl ⟨fun h => J1 rfl (by omega), fun h => ?_⟩
            simp (disch := omega) only [nI_clamp, gm_clL, gm_in, gm_inL, gm_ml, gm_al, gm_la, gm_sl, nI_add, pk_mul, gm_eqL, gm_leL, gm_ltL, gm_Lle, gm_Llt, gm_eq, gm_le, gm_lt, gm_m1, forall_eq, true_and, Nat.not_lt_zero, Nat.add_sub_cancel, gm_z2, gm_z3, gm_z9, gm_z16, gm_z18, gm_z32, gm_z36, gm_z64, gm_z1152, not_true_eq_false, not_false_eq_true, false_implies, true_implies, and_true, implies_true, eD1]
            refine ev_yopd g_methods g_place g_result g_linked g_bad g_high g_refs g_active g_ticks g_code b_above b_ownField b_mType b_mName b_mLength a_bytes (upd ys p 1) b_seen b_done b_heights b_local b_sure b_objType b_objField b_marked b_global b_fMethod b_fPc b_fHigh b_fLocal b_fEntry h21 hsg (by omega) ht (fun h2 => J3 (by omega) (fun _ => h2)) (fun h2 => J2 rfl (by omega) h2)
          · have e2 : is_sz (D p) = 1 := by rw [szE, hsg]; rfl
            rw [e2] at J1 J2 J3
            exact br_f (by decide) (J3 (by omega) (fun z => by rw [hsg] at z; exact nomatch z))
        have hsz : is_sz (D p) = 1 ∨ is_sz (D p) = 2 := by unfold is_sz; split <;> simp
        by_cases c1 : p + is_sz (D p) ≤ L
        · by_cases c2 : is_sg (D p) = false → is_opd tc (D p) (D (p + 1))
          · have c3 : is_sz (D p) = 2 → is_opd tc (D p) (D (p + 1)) := by
              intro h
              apply c2
              rw [szE] at h
              cases hs : is_sg (D p)
              · rfl
              · rw [hs] at h; simp at h
            rcases ih (p + is_sz (D p)) (by omega) _ _ (fbI_s I h21 c2 c1 (by omega) hL) with ⟨q, xs', ys', hq, hfq, hX, hY⟩ | ⟨xs', ys', hI, hX, hY⟩
            · refine Or.inl ⟨q, xs', ys', hq, hfq, fun post J => sX post (fun _ h1 h2 => absurd c1 (by omega)) (fun h1 h2 h3 => absurd (c3 h1) h3) (fun _ _ => hX post J), fun post J => sY post (fun h1 h2 => absurd c1 (by omega)) (fun h1 h2 h3 => absurd (c3 h1) h3) (fun _ _ => hY post J)⟩
            · refine Or.inr ⟨xs', ys', hI, fun post J => sX post (fun _ h1 h2 => absurd c1 (by omega)) (fun h1 h2 h3 => absurd (c3 h1) h3) (fun _ _ => hX post J), fun post J => sY post (fun h1 h2 => absurd c1 (by omega)) (fun h1 h2 h3 => absurd (c3 h1) h3) (fun _ _ => hY post J)⟩
          · refine Or.inl ⟨p, xs, upd ys p 1, by omega, ⟨hp2, hsp, fun z => c2 z.2.2, bfOld⟩, fun post J => sX post (fun _ h1 h2 => absurd c1 (by omega)) (fun _ _ _ => J) (fun _ h => absurd h c2), fun post J => sY post (fun h1 h2 => absurd c1 (by omega)) (fun _ _ _ => J) (fun _ h => absurd h c2)⟩
        · refine Or.inl ⟨p, xs, upd ys p 1, by omega, ⟨hp2, hsp, fun z => c1 z.2.1, bfOld⟩, fun post J => ?_, fun post J => sY post (fun h1 h2 => J) (fun h1 h2 _ => absurd h2 (by omega)) (fun h _ => absurd h c1)⟩
          unfold wX_findByteFault_30
          simp (disch := omega) only [nI_clamp, gm_clL, gm_in, gm_inL, gm_ml, gm_al, gm_la, gm_sl, nI_add, pk_mul, gm_eqL, gm_leL, gm_ltL, gm_Lle, gm_Llt, gm_eq, gm_le, gm_lt, gm_m1, forall_eq, true_and, Nat.not_lt_zero, Nat.add_sub_cancel, gm_z2, gm_z3, gm_z9, gm_z16, gm_z18, gm_z32, gm_z36, gm_z64, gm_z1152, not_true_eq_false, not_false_eq_true, false_implies, true_implies, and_true, implies_true, eL, eD]
          refine ⟨fun z => absurd z (by omega), fun _ => ⟨fun _ => ev_sizeOf (by omega) ?_, fun z => absurd (show D p ≤ 20 by omega) z⟩⟩
          simp (disch := omega) only [nI_clamp, gm_clL, gm_in, gm_inL, gm_ml, gm_al, gm_la, gm_sl, nI_add, pk_mul, gm_eqL, gm_leL, gm_ltL, gm_Lle, gm_Llt, gm_eq, gm_le, gm_lt, gm_m1, forall_eq, true_and, Nat.not_lt_zero, Nat.add_sub_cancel, gm_z2, gm_z3, gm_z9, gm_z16, gm_z18, gm_z32, gm_z36, gm_z64, gm_z1152, not_true_eq_false, not_false_eq_true, false_implies, true_implies, and_true, implies_true]
          exact ⟨fun z => absurd z c1, fun _ => J⟩
      · refine Or.inl ⟨p, xs, upd ys p 1, by omega, ⟨hp2, hsp, fun z => h21 z.1, bfOld⟩, fun post J => ?_, fun post J => ?_⟩
        · unfold wX_findByteFault_30
          simp (disch := omega) only [nI_clamp, gm_clL, gm_in, gm_inL, gm_ml, gm_al, gm_la, gm_sl, nI_add, pk_mul, gm_eqL, gm_leL, gm_ltL, gm_Lle, gm_Llt, gm_eq, gm_le, gm_lt, gm_m1, forall_eq, true_and, Nat.not_lt_zero, Nat.add_sub_cancel, gm_z2, gm_z3, gm_z9, gm_z16, gm_z18, gm_z32, gm_z36, gm_z64, gm_z1152, not_true_eq_false, not_false_eq_true, false_implies, true_implies, and_true, implies_true, eL, eD]
          exact ⟨fun z => absurd z (by omega), fun _ => ⟨fun z => absurd z (by omega), fun _ => J⟩⟩
        · unfold wY_formFault_39
          simp (disch := omega) only [nI_clamp, gm_clL, gm_in, gm_inL, gm_ml, gm_al, gm_la, gm_sl, nI_add, pk_mul, gm_eqL, gm_leL, gm_ltL, gm_Lle, gm_Llt, gm_eq, gm_le, gm_lt, gm_m1, forall_eq, true_and, Nat.not_lt_zero, Nat.add_sub_cancel, gm_z2, gm_z3, gm_z9, gm_z16, gm_z18, gm_z32, gm_z36, gm_z64, gm_z1152, not_true_eq_false, not_false_eq_true, false_implies, true_implies, and_true, implies_true, eD, gm_nb1]
          exact ⟨fun z => absurd z (by omega), fun _ => ⟨fun z => absurd z (by omega), fun _ => J⟩⟩
