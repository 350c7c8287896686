theorem nx_or (a b : Nat) : nI a ||| nI b = nI (a ||| b) := by
  apply Int32.toBitVec_inj.1
  show BitVec.ofNat 32 a ||| BitVec.ofNat 32 b = BitVec.ofNat 32 (a ||| b)
  apply BitVec.eq_of_getLsbD_eq
  intro i hi
  simp [hi]
/-! ===== arrive ===== -/
theorem ar_69 (f_typeCount f_methodCount f_linked f_faultPlace f_active f_ticksLeft f_outcome f_latestResult : Int32) (a_typeAbove a_fieldSet a_methodType a_methodName a_codeLength a_bytes a_isStart a_heightAt a_flowKinds a_globals a_objectType a_fieldValue a_isMarked a_frameMethod a_frameAt a_frameHeight a_slots : Nat → Int32) {to h' : Nat} {x4 : Int32} {kn f : Nat → Nat} (hto : to < 256) (h5 : h' ≤ 5) (hk8 : ∀ s, kn s < 8) (hn : x4 ≠ 0 → ∀ s, kn s = 0) (hf : ∀ s, s < 4 + h' → a_flowKinds s = nI (f s) ∧ 0 < f s ∧ f s < 8) :
    ∀ d s, s + d = 4 + h' → ∀ K W : Nat → Int32, (∀ s', s ≤ s' → s' < 4 + h' → x4 = 0 → K (to * 9 + s') = nI (kn s')) → ∃ K' W' : Nat → Int32, (∀ i, (∀ s', s ≤ s' → s' < 4 + h' → i ≠ to * 9 + s') → K' i = K i) ∧ (∀ s', s ≤ s' → s' < 4 + h' → K' (to * 9 + s') = nI (kn s' ||| f s')) ∧ (∀ i, i ≠ to → W' i = W i) ∧ ((W' to = W to ∧ ∀ s', s ≤ s' → s' < 4 + h' → kn s' ||| f s' = kn s') ∨ (W' to = 1 ∧ ∃ s', s ≤ s' ∧ s' < 4 + h' ∧ kn s' ||| f s' ≠ kn s')) ∧
      ∀ post : Int32 → SX → Prop, post 1 (f_typeCount, f_methodCount, f_linked, f_faultPlace, nI h', f_active, f_ticksLeft, f_outcome, f_latestResult, a_typeAbove, a_fieldSet, a_methodType, a_methodName, a_codeLength, a_bytes, a_isStart, a_heightAt, K', W', a_flowKinds, a_globals, a_objectType, a_fieldValue, a_isMarked, a_frameMethod, a_frameAt, a_frameHeight, a_slots) → wX_arrive_69 post (nI to) x4 f_typeCount f_methodCount f_linked f_faultPlace (nI h') f_active f_ticksLeft f_outcome f_latestResult (d + 1) (nI s) a_typeAbove a_fieldSet a_methodType a_methodName a_codeLength a_bytes a_isStart a_heightAt K W a_flowKinds a_globals a_objectType a_fieldValue a_isMarked a_frameMethod a_frameAt a_frameHeight a_slots := by
  intro d
  induction d with
  | zero =>
    intro s hs K W hK
    refine ⟨K, W, fun _ _ => rfl, fun s' h1 h2 => absurd h2 (by omega), fun _ _ => rfl, Or.inl ⟨rfl, fun s' h1 h2 => absurd h2 (by omega)⟩, fun post J => ?_⟩
    unfold wX_arrive_69
    simp (disch := omega) only [nI_clamp, gm_clL, gm_in, gm_inL, gm_ml, gm_al, gm_la, gm_sl, nI_add, pk_mul, gm_eqL, gm_leL, gm_ltL, gm_Lle, gm_Llt, gm_eq, gm_le, gm_lt, gm_m1, forall_eq, true_and, Nat.not_lt_zero, Nat.add_sub_cancel, gm_z2, gm_z3, gm_z9, gm_z16, gm_z18, gm_z32, gm_z36, gm_z64, gm_z1152, not_true_eq_false, not_false_eq_true, false_implies, true_implies, and_true, implies_true]
    exact ⟨fun _ => J, fun z => absurd (show 4 + h' ≤ s by omega) z⟩
  | succ d ih =>
    intro s hs K W hK
    obtain ⟨f1, f2, f3⟩ := hf s (by omega)
    by_cases e : kn s ||| f s = kn s
    · have x0 : x4 = 0 := Classical.byContradiction fun z => by
        have := hn z s
        rw [this, Nat.zero_or] at e
        omega
      subst x0
      obtain ⟨K', W', c1, c2, c3, c4, c5⟩ := ih (s + 1) (by omega) K W (fun s' h1 h2 => hK s' (by omega) h2)
      refine ⟨K', W', fun i hi => c1 i (fun s' h1 h2 => hi s' (by omega) h2), fun s' h1 h2 => ?_, c3, ?_, fun post J => ?_⟩
      · by_cases e2 : s' = s
        · subst e2
          rw [c1 _ (fun s'' h1 h2 => by omega), hK s' (by omega) h2 rfl, e]
        · exact c2 s' (by omega) h2
      · rcases c4 with ⟨z1, z2⟩ | ⟨z1, s2, z2, z3, z4⟩
        · refine Or.inl ⟨z1, fun s' h1 h2 => ?_⟩
          by_cases e2 : s' = s
          · subst e2; exact e
          · exact z2 s' (by omega) h2
        · exact Or.inr ⟨z1, s2, by omega, z3, z4⟩
      · have hKs := hK s (by omega) (by omega) rfl
        have hb := kd_orL _ (hk8 s) _ f3
        have hk := hk8 s
        unfold wX_arrive_69 wX_arrive_101
        simp (disch := omega) only [nI_clamp, gm_clL, gm_in, gm_inL, gm_ml, gm_al, gm_la, gm_sl, nI_add, pk_mul, gm_eqL, gm_leL, gm_ltL, gm_Lle, gm_Llt, gm_eq, gm_le, gm_lt, gm_m1, forall_eq, true_and, Nat.not_lt_zero, Nat.add_sub_cancel, gm_z2, gm_z3, gm_z9, gm_z16, gm_z18, gm_z32, gm_z36, gm_z64, gm_z1152, not_true_eq_false, not_false_eq_true, false_implies, true_implies, and_true, implies_true, hKs, f1, nx_or, e]
        exact ⟨fun z => absurd z (by omega), fun _ => c5 post J⟩
    · have hb := kd_orL _ (hk8 s) _ f3
      have hk := hk8 s
      obtain ⟨K', W', c1, c2, c3, c4, c5⟩ := ih (s + 1) (by omega) (upd K (to * 9 + s) (nI (kn s ||| f s))) (upd W to 1) (fun s' h1 h2 h3 => by rw [pk_un (by omega)]; exact hK s' (by omega) h2 h3)
      refine ⟨K', W', fun i hi => ?_, fun s' h1 h2 => ?_, fun i hi => ?_, Or.inr ⟨?_, s, by omega, by omega, e⟩, fun post J => ?_⟩
      · rw [c1 i (fun s' h1 h2 => hi s' (by omega) h2), pk_un (hi s (by omega) (by omega))]
      · by_cases e2 : s' = s
        · subst e2
          rw [c1 _ (fun s'' h1 h2 => by omega), pk_us]
        · exact c2 s' (by omega) h2
      · rw [c3 i hi, pk_un hi]
      · rcases c4 with ⟨z1, -⟩ | ⟨z1, -⟩
        · rw [z1, pk_us]
        · exact z1
      · have h3 := c5 post J
        unfold wX_arrive_69 wX_arrive_101
        by_cases x0 : x4 = 0
        · subst x0
          have hKs := hK s (by omega) (by omega) rfl
          simp (disch := omega) only [nI_clamp, gm_clL, gm_in, gm_inL, gm_ml, gm_al, gm_la, gm_sl, nI_add, pk_mul, gm_eqL, gm_leL, gm_ltL, gm_Lle, gm_Llt, gm_eq, gm_le, gm_lt, gm_m1, forall_eq, true_and, Nat.not_lt_zero, Nat.add_sub_cancel, gm_z2, gm_z3, gm_z9, gm_z16, gm_z18, gm_z32, gm_z36, gm_z64, gm_z1152, not_true_eq_false, not_false_eq_true, false_implies, true_implies, and_true, implies_true, hKs, f1, nx_or, e, gm_nb1]
          exact ⟨fun z => absurd z (by omega), fun _ => h3⟩
        · have hz := hn x0 s
          rw [hz] at h3 e
          have l0 : (0 : Int32) = nI 0 := rfl
          rw [Nat.zero_or] at h3 e
          simp (disch := omega) only [nI_clamp, gm_clL, gm_in, gm_inL, gm_ml, gm_al, gm_la, gm_sl, nI_add, pk_mul, gm_eqL, gm_leL, gm_ltL, gm_Lle, gm_Llt, gm_eq, gm_le, gm_lt, gm_m1, forall_eq, true_and, Nat.not_lt_zero, Nat.add_sub_cancel, gm_z2, gm_z3, gm_z9, gm_z16, gm_z18, gm_z32, gm_z36, gm_z64, gm_z1152, not_true_eq_false, not_false_eq_true, false_implies, true_implies, and_true, implies_true, f1, x0, gm_nb1, Int32.zero_or]
          exact ⟨fun z => absurd z (by omega), fun _ => ⟨fun z => absurd z (by omega), fun _ => h3⟩⟩
theorem ar_x (f_typeCount f_methodCount f_linked f_faultPlace f_active f_ticksLeft f_outcome f_latestResult : Int32) (a_typeAbove a_fieldSet a_methodType a_methodName a_codeLength a_bytes a_isStart a_heightAt a_kindsAt a_isWaiting a_flowKinds a_globals a_objectType a_fieldValue a_isMarked a_frameMethod a_frameAt a_frameHeight a_slots : Nat → Int32) {m L p' h' : Nat} {f : Nat → Nat} (hm : m < 8) (hL : L ≤ 32) (eL : a_codeLength m = nI L) (h5 : h' ≤ 5) (hp : p' < 1000) (hf : ∀ s, s < 4 + h' → a_flowKinds s = nI (f s) ∧ 0 < f s ∧ f s < 8) (KB : ∀ i, ∃ a, a < 8 ∧ a_kindsAt i = nI a) :
    (L ≤ p' → ∀ post : Int32 → SX → Prop, post 0 (f_typeCount, f_methodCount, f_linked, f_faultPlace, nI h', f_active, f_ticksLeft, f_outcome, f_latestResult, a_typeAbove, a_fieldSet, a_methodType, a_methodName, a_codeLength, a_bytes, a_isStart, a_heightAt, a_kindsAt, a_isWaiting, a_flowKinds, a_globals, a_objectType, a_fieldValue, a_isMarked, a_frameMethod, a_frameAt, a_frameHeight, a_slots) → wpX_arrive post (f_typeCount, f_methodCount, f_linked, f_faultPlace, nI h', f_active, f_ticksLeft, f_outcome, f_latestResult, a_typeAbove, a_fieldSet, a_methodType, a_methodName, a_codeLength, a_bytes, a_isStart, a_heightAt, a_kindsAt, a_isWaiting, a_flowKinds, a_globals, a_objectType, a_fieldValue, a_isMarked, a_frameMethod, a_frameAt, a_frameHeight, a_slots) (nI m) (nI p')) ∧
    (p' < L → ∀ h0, h0 ≤ 5 → a_heightAt (m * 32 + p') = nI h0 → h0 ≠ h' → ∀ post : Int32 → SX → Prop, post 0 (f_typeCount, f_methodCount, f_linked, f_faultPlace, nI h', f_active, f_ticksLeft, f_outcome, f_latestResult, a_typeAbove, a_fieldSet, a_methodType, a_methodName, a_codeLength, a_bytes, a_isStart, a_heightAt, a_kindsAt, a_isWaiting, a_flowKinds, a_globals, a_objectType, a_fieldValue, a_isMarked, a_frameMethod, a_frameAt, a_frameHeight, a_slots) → wpX_arrive post (f_typeCount, f_methodCount, f_linked, f_faultPlace, nI h', f_active, f_ticksLeft, f_outcome, f_latestResult, a_typeAbove, a_fieldSet, a_methodType, a_methodName, a_codeLength, a_bytes, a_isStart, a_heightAt, a_kindsAt, a_isWaiting, a_flowKinds, a_globals, a_objectType, a_fieldValue, a_isMarked, a_frameMethod, a_frameAt, a_frameHeight, a_slots) (nI m) (nI p')) ∧
    (p' < L → (a_heightAt (m * 32 + p') = -1 ∨ a_heightAt (m * 32 + p') = nI h') → ∃ H' K' W', AR m p' h' f a_heightAt a_kindsAt a_isWaiting H' K' W' ∧ ∀ post : Int32 → SX → Prop, post 1 (f_typeCount, f_methodCount, f_linked, f_faultPlace, nI h', f_active, f_ticksLeft, f_outcome, f_latestResult, a_typeAbove, a_fieldSet, a_methodType, a_methodName, a_codeLength, a_bytes, a_isStart, H', K', W', a_flowKinds, a_globals, a_objectType, a_fieldValue, a_isMarked, a_frameMethod, a_frameAt, a_frameHeight, a_slots) → wpX_arrive post (f_typeCount, f_methodCount, f_linked, f_faultPlace, nI h', f_active, f_ticksLeft, f_outcome, f_latestResult, a_typeAbove, a_fieldSet, a_methodType, a_methodName, a_codeLength, a_bytes, a_isStart, a_heightAt, a_kindsAt, a_isWaiting, a_flowKinds, a_globals, a_objectType, a_fieldValue, a_isMarked, a_frameMethod, a_frameAt, a_frameHeight, a_slots) (nI m) (nI p')) := by
  refine ⟨fun hLp post J => ?_, fun hLp h0 h05 e0 hne post J => ?_, fun hLp e0 => ?_⟩
  · unfold wpX_arrive
    simp (disch := omega) only [nI_clamp, gm_clL, gm_in, gm_inL, gm_ml, gm_al, gm_la, gm_sl, nI_add, pk_mul, gm_eqL, gm_leL, gm_ltL, gm_Lle, gm_Llt, gm_eq, gm_le, gm_lt, gm_m1, forall_eq, true_and, Nat.not_lt_zero, Nat.add_sub_cancel, gm_z2, gm_z3, gm_z9, gm_z16, gm_z18, gm_z32, gm_z36, gm_z64, gm_z1152, not_true_eq_false, not_false_eq_true, false_implies, true_implies, and_true, implies_true, eL]
    exact ⟨fun z => absurd z (by omega), fun _ => J⟩
  · unfold wpX_arrive wX_arrive_34
    simp (disch := omega) only [nI_clamp, gm_clL, gm_in, gm_inL, gm_ml, gm_al, gm_la, gm_sl, nI_add, pk_mul, gm_eqL, gm_leL, gm_ltL, gm_Lle, gm_Llt, gm_eq, gm_le, gm_lt, gm_m1, forall_eq, true_and, Nat.not_lt_zero, Nat.add_sub_cancel, gm_z2, gm_z3, gm_z9, gm_z16, gm_z18, gm_z32, gm_z36, gm_z64, gm_z1152, not_true_eq_false, not_false_eq_true, false_implies, true_implies, and_true, implies_true, eL, e0]
    refine ⟨fun _ => ⟨fun z => absurd z hne, fun _ => J⟩, fun z => absurd hLp z⟩
  · have kb : ∀ s, kk m a_kindsAt p' s < 8 ∧ a_kindsAt ((m * 32 + p') * 9 + s) = nI (kk m a_kindsAt p' s) := fun s => by
      obtain ⟨a, ha, e⟩ := KB ((m * 32 + p') * 9 + s)
      rw [kk_nI e ha]; exact ⟨ha, e⟩
    rcases e0 with e0 | e0
    · obtain ⟨K', W', c1, c2, c3, c4, c5⟩ := ar_69 f_typeCount f_methodCount f_linked f_faultPlace f_active f_ticksLeft f_outcome f_latestResult a_typeAbove a_fieldSet a_methodType a_methodName a_codeLength a_bytes a_isStart (upd a_heightAt (m * 32 + p') (nI h')) a_flowKinds a_globals a_objectType a_fieldValue a_isMarked a_frameMethod a_frameAt a_frameHeight a_slots (to := m * 32 + p') (x4 := 1) (kn := fun _ => 0) (f := f) (by omega) h5 (fun _ => by omega) (fun _ _ => rfl) hf (4 + h') 0 (by omega) a_kindsAt a_isWaiting (fun s' _ _ z => absurd z (by decide))
      refine ⟨_, K', W', ⟨fun _ => 0, Or.inl ⟨e0, fun _ => rfl⟩, rfl, fun i hi => c1 i (fun s' _ h2 => hi s' h2), fun s hs => c2 s (by omega) hs, c3, ?_⟩, fun post J => ?_⟩
      · rcases c4 with ⟨z1, z2⟩ | ⟨z1, s2, z2, z3, z4⟩
        · exact Or.inl ⟨z1, fun s hs => z2 s (by omega) hs⟩
        · exact Or.inr ⟨z1, s2, z3, z4⟩
      · unfold wpX_arrive wX_arrive_34 wX_arrive_56
        simp (disch := omega) only [nI_clamp, gm_clL, gm_in, gm_inL, gm_ml, gm_al, gm_la, gm_sl, nI_add, pk_mul, gm_eqL, gm_leL, gm_ltL, gm_Lle, gm_Llt, gm_eq, gm_le, gm_lt, gm_m1, forall_eq, true_and, Nat.not_lt_zero, Nat.add_sub_cancel, gm_z2, gm_z3, gm_z9, gm_z16, gm_z18, gm_z32, gm_z36, gm_z64, gm_z1152, not_true_eq_false, not_false_eq_true, false_implies, true_implies, and_true, implies_true, eL, e0, gm_z1]
        exact ⟨fun _ => ⟨4 + h' + 1, c5 post J⟩, fun z => absurd hLp z⟩
    · obtain ⟨K', W', c1, c2, c3, c4, c5⟩ := ar_69 f_typeCount f_methodCount f_linked f_faultPlace f_active f_ticksLeft f_outcome f_latestResult a_typeAbove a_fieldSet a_methodType a_methodName a_codeLength a_bytes a_isStart (upd a_heightAt (m * 32 + p') (nI h')) a_flowKinds a_globals a_objectType a_fieldValue a_isMarked a_frameMethod a_frameAt a_frameHeight a_slots (to := m * 32 + p') (x4 := 0) (kn := kk m a_kindsAt p') (f := f) (by omega) h5 (fun s => (kb s).1) (fun z => absurd rfl z) hf (4 + h') 0 (by omega) a_kindsAt a_isWaiting (fun s' _ _ _ => (kb s').2)
      refine ⟨_, K', W', ⟨kk m a_kindsAt p', Or.inr ⟨e0, fun _ => rfl⟩, rfl, fun i hi => c1 i (fun s' _ h2 => hi s' h2), fun s hs => c2 s (by omega) hs, c3, ?_⟩, fun post J => ?_⟩
      · rcases c4 with ⟨z1, z2⟩ | ⟨z1, s2, z2, z3, z4⟩
        · exact Or.inl ⟨z1, fun s hs => z2 s (by omega) hs⟩
        · exact Or.inr ⟨z1, s2, z3, z4⟩
      · unfold wpX_arrive wX_arrive_34 wX_arrive_56
        simp (disch := omega) only [nI_clamp, gm_clL, gm_in, gm_inL, gm_ml, gm_al, gm_la, gm_sl, nI_add, pk_mul, gm_eqL, gm_leL, gm_ltL, gm_Lle, gm_Llt, gm_eq, gm_le, gm_lt, gm_m1, forall_eq, true_and, Nat.not_lt_zero, Nat.add_sub_cancel, gm_z2, gm_z3, gm_z9, gm_z16, gm_z18, gm_z32, gm_z36, gm_z64, gm_z1152, not_true_eq_false, not_false_eq_true, false_implies, true_implies, and_true, implies_true, eL, e0]
        exact ⟨fun _ => ⟨4 + h' + 1, c5 post J⟩, fun z => absurd hLp z⟩
/-! ===== what an instruction takes and gives ===== -/
theorem gk_and4 : ∀ b, b < 256 → ((nI b &&& 4) = 0 ↔ b / 4 % 2 = 0) := by decide +kernel
theorem ev_ak {post : Int32 → Prop} {b : Nat} (hb : b < 256) (J : post (nI (is_ak b))) : wpX_argumentKind post (nI b) := by
  unfold is_ak at J
  have := gk_and4 b hb
  by_cases e : b / 4 % 2 = 0
  · rw [if_pos e] at J; exact br_t (this.mpr e) J
  · rw [if_neg e] at J; exact br_f (fun z => e (this.mp z)) J
theorem is_21 {o : Nat} (ho : o < 21) : o = 0 ∨ o = 1 ∨ o = 2 ∨ o = 3 ∨ o = 4 ∨ o = 5 ∨ o = 6 ∨ o = 7 ∨ o = 8 ∨ o = 9 ∨ o = 10 ∨ o = 11 ∨ o = 12 ∨ o = 13 ∨ o = 14 ∨ o = 15 ∨ o = 16 ∨ o = 17 ∨ o = 18 ∨ o = 19 ∨ o = 20 := by omega
theorem ev_topNeed (f_typeCount f_methodCount f_linked f_faultPlace f_flowHeight f_active f_ticksLeft f_outcome f_latestResult : Int32) (a_typeAbove a_fieldSet a_methodType a_methodName a_codeLength a_bytes a_isStart a_heightAt a_kindsAt a_isWaiting a_flowKinds a_globals a_objectType a_fieldValue a_isMarked a_frameMethod a_frameAt a_frameHeight a_slots : Nat → Int32) {post : Int32 → Prop} {m o b nm : Nat} (hm : m < 8) (ho : o < 21) (hb : b < 256) (hn : nm < 16) (eN : a_methodName m = nI nm) (J : post (nI (is_n1 o b nm))) : wpX_topNeed post (f_typeCount, f_methodCount, f_linked, f_faultPlace, f_flowHeight, f_active, f_ticksLeft, f_outcome, f_latestResult, a_typeAbove, a_fieldSet, a_methodType, a_methodName, a_codeLength, a_bytes, a_isStart, a_heightAt, a_kindsAt, a_isWaiting, a_flowKinds, a_globals, a_objectType, a_fieldValue, a_isMarked, a_frameMethod, a_frameAt, a_frameHeight, a_slots) (nI m) (nI o) (nI b) := by
  unfold wpX_topNeed
  rcases is_21 ho with rfl | rfl | rfl | rfl | rfl | rfl | rfl | rfl | rfl | rfl | rfl | rfl | rfl | rfl | rfl | rfl | rfl | rfl | rfl | rfl | rfl
  all_goals simp (disch := omega) only [nI_clamp, gm_clL, gm_in, gm_inL, gm_ml, gm_al, gm_la, gm_sl, nI_add, pk_mul, gm_eqL, gm_leL, gm_ltL, gm_Lle, gm_Llt, gm_eq, gm_le, gm_lt, gm_m1, forall_eq, true_and, Nat.not_lt_zero, Nat.add_sub_cancel, gm_z2, gm_z3, gm_z9, gm_z16, gm_z18, gm_z32, gm_z36, gm_z64, gm_z1152, not_true_eq_false, not_false_eq_true, false_implies, true_implies, and_true, implies_true, gm_z1, Nat.reduceEqDiff, Nat.reduceLT, Nat.reduceLeDiff, Nat.reduceAdd, Nat.reduceMul, Nat.reduceSub, eN]
  all_goals first | exact J | exact ev_vk (by omega) J | exact ev_ak (by omega) J
theorem ev_secondNeed {post : Int32 → Prop} {o : Nat} (ho : o < 21) (J : post (nI (is_n2 o))) : wpX_secondNeed post (nI o) := by
  unfold wpX_secondNeed
  rcases is_21 ho with rfl | rfl | rfl | rfl | rfl | rfl | rfl | rfl | rfl | rfl | rfl | rfl | rfl | rfl | rfl | rfl | rfl | rfl | rfl | rfl | rfl
  all_goals simp (disch := omega) only [nI_clamp, gm_clL, gm_in, gm_inL, gm_ml, gm_al, gm_la, gm_sl, nI_add, pk_mul, gm_eqL, gm_leL, gm_ltL, gm_Lle, gm_Llt, gm_eq, gm_le, gm_lt, gm_m1, forall_eq, true_and, Nat.not_lt_zero, Nat.add_sub_cancel, gm_z2, gm_z3, gm_z9, gm_z16, gm_z18, gm_z32, gm_z36, gm_z64, gm_z1152, not_true_eq_false, not_false_eq_true, false_implies, true_implies, and_true, implies_true, gm_z1, Nat.reduceEqDiff, Nat.reduceLT, Nat.reduceLeDiff, Nat.reduceAdd, Nat.reduceMul, Nat.reduceSub]
  all_goals exact J
theorem ev_givenKind {post : Int32 → Prop} {o b : Nat} (ho : o < 21) (hb : b < 256) (J : post (nI (is_gk o b))) : wpX_givenKind post (nI o) (nI b) := by
  unfold wpX_givenKind wX_givenKind_100
  rcases is_21 ho with rfl | rfl | rfl | rfl | rfl | rfl | rfl | rfl | rfl | rfl | rfl | rfl | rfl | rfl | rfl | rfl | rfl | rfl | rfl | rfl | rfl
  all_goals simp (disch := omega) only [nI_clamp, gm_clL, gm_in, gm_inL, gm_ml, gm_al, gm_la, gm_sl, nI_add, pk_mul, gm_eqL, gm_leL, gm_ltL, gm_Lle, gm_Llt, gm_eq, gm_le, gm_lt, gm_m1, forall_eq, true_and, Nat.not_lt_zero, Nat.add_sub_cancel, gm_z2, gm_z3, gm_z9, gm_z16, gm_z18, gm_z32, gm_z36, gm_z64, gm_z1152, not_true_eq_false, not_false_eq_true, false_implies, true_implies, and_true, implies_true, gm_z1, Nat.reduceEqDiff, Nat.reduceLT, Nat.reduceLeDiff, Nat.reduceAdd, Nat.reduceMul, Nat.reduceSub]
  all_goals first | exact J | exact ev_vk (by omega) J
