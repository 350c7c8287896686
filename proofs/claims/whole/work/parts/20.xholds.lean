/-! ===== counting ===== -/
noncomputable def cnP (P : Nat → Prop) : Nat → Nat
  | 0 => 0
  | n + 1 => cnP P n + @ite _ (P n) (Classical.propDecidable _) 1 0
theorem cnP_le (P : Nat → Prop) : ∀ n, cnP P n ≤ n
  | 0 => Nat.le_refl 0
  | n + 1 => by
    have := cnP_le P n
    unfold cnP
    split <;> omega
theorem cnP_mono {P Q : Nat → Prop} : ∀ n, (∀ i, i < n → P i → Q i) → cnP P n ≤ cnP Q n
  | 0, _ => Nat.le_refl 0
  | n + 1, h => by
    have h1 := cnP_mono n (fun i hi => h i (by omega))
    have h2 := h n (by omega)
    unfold cnP
    split
    · rename_i z
      rw [if_pos (h2 z)]
      omega
    · omega
theorem cnP_lt {P Q : Nat → Prop} : ∀ n, (∀ i, i < n → P i → Q i) → (∃ i, i < n ∧ Q i ∧ ¬ P i) → cnP P n < cnP Q n
  | 0, _, ⟨i, hi, _⟩ => absurd hi (by omega)
  | n + 1, h, ⟨i, hi, q, np⟩ => by
    have h1 := cnP_mono n (fun i hi => h i (by omega))
    unfold cnP
    by_cases e : i = n
    · subst e
      rw [if_neg np, if_pos q]
      omega
    · have h3 := cnP_lt n (fun i hi => h i (by omega)) ⟨i, by omega, q, np⟩
      have h2 := h n (by omega)
      split
      · rename_i z
        rw [if_pos (h2 z)]
        omega
      · omega
/-! ===== flowOn ===== -/
theorem fl_on (f_typeCount f_methodCount f_linked f_faultPlace f_flowHeight f_active f_ticksLeft f_outcome f_latestResult : Int32) (a_typeAbove a_fieldSet a_methodType a_methodName a_codeLength a_bytes a_isStart a_heightAt a_kindsAt a_isWaiting a_flowKinds a_globals a_objectType a_fieldValue a_isMarked a_frameMethod a_frameAt a_frameHeight a_slots : Nat → Int32) {m L nm tc p h : Nat} {D : Nat → Nat} {S : Nat → Prop} (F : fo_OK tc L D S) (I : XI m L nm D S 99 a_heightAt a_kindsAt a_isWaiting) (hm : m < 8) (eL : a_codeLength m = nI L) (hn : nm < 16) (eN : a_methodName m = nI nm) (hD : ∀ p, p < 33 → a_bytes (m * 32 + p) = nI (D p) ∧ D p < 256)
    (hp : p < L) (h5 : h ≤ 5) (eH : a_heightAt (m * 32 + p) = nI h) :
    (WBad D L nm ∧ ∃ (fh : Int32) (FK H' K' W' : Nat → Int32), (∀ i, ∃ a, a < 8 ∧ K' i = nI a) ∧ XFr m a_heightAt a_kindsAt H' K' ∧ ∀ post : Int32 → SX → Prop, post 0 (f_typeCount, f_methodCount, f_linked, f_faultPlace, fh, f_active, f_ticksLeft, f_outcome, f_latestResult, a_typeAbove, a_fieldSet, a_methodType, a_methodName, a_codeLength, a_bytes, a_isStart, H', K', W', FK, a_globals, a_objectType, a_fieldValue, a_isMarked, a_frameMethod, a_frameAt, a_frameHeight, a_slots) → wpX_flowOn post (f_typeCount, f_methodCount, f_linked, f_faultPlace, f_flowHeight, f_active, f_ticksLeft, f_outcome, f_latestResult, a_typeAbove, a_fieldSet, a_methodType, a_methodName, a_codeLength, a_bytes, a_isStart, a_heightAt, a_kindsAt, a_isWaiting, a_flowKinds, a_globals, a_objectType, a_fieldValue, a_isMarked, a_frameMethod, a_frameAt, a_frameHeight, a_slots) (nI m) (nI p)) ∨
    (∃ (fh : Int32) (FK H' K' W' : Nat → Int32), XI m L nm D S 99 H' K' W' ∧ XMon m a_heightAt a_kindsAt H' K' ∧ XFr m a_heightAt a_kindsAt H' K' ∧ XGrow m a_heightAt a_kindsAt (upd a_isWaiting (m * 32 + p) 0) H' K' W' ∧ ∀ post : Int32 → SX → Prop, post 1 (f_typeCount, f_methodCount, f_linked, f_faultPlace, fh, f_active, f_ticksLeft, f_outcome, f_latestResult, a_typeAbove, a_fieldSet, a_methodType, a_methodName, a_codeLength, a_bytes, a_isStart, H', K', W', FK, a_globals, a_objectType, a_fieldValue, a_isMarked, a_frameMethod, a_frameAt, a_frameHeight, a_slots) → wpX_flowOn post (f_typeCount, f_methodCount, f_linked, f_faultPlace, f_flowHeight, f_active, f_ticksLeft, f_outcome, f_latestResult, a_typeAbove, a_fieldSet, a_methodType, a_methodName, a_codeLength, a_bytes, a_isStart, a_heightAt, a_kindsAt, a_isWaiting, a_flowKinds, a_globals, a_objectType, a_fieldValue, a_isMarked, a_frameMethod, a_frameAt, a_frameHeight, a_slots) (nI m) (nI p)) := by
  have hL := F.2.1
  have I0 := XI_open (p := p) hL I
  obtain ⟨hS, -⟩ := I.2.2.1 p hp h h5 eH
  obtain ⟨f1, f2, f3, f4, f5⟩ := F.2.2.2 p hp hS
  obtain ⟨FK1, c1, c2⟩ := fo_copy f_typeCount f_methodCount f_linked f_faultPlace f_active f_ticksLeft f_outcome f_latestResult a_typeAbove a_fieldSet a_methodType a_methodName a_codeLength a_bytes a_isStart a_heightAt a_kindsAt (upd a_isWaiting (m * 32 + p) 0) a_globals a_objectType a_fieldValue a_isMarked a_frameMethod a_frameAt a_frameHeight a_slots (x1 := nI m) (x2 := nI p) (to := m * 32 + p) (by omega) h5 (4 + h) 0 (by omega) a_flowKinds (fun s z => absurd z (by omega))
  have hk : ∀ s, s < 4 + h → FK1 s = nI (kk m a_kindsAt p s) := fun s hs => by rw [c1 s hs]; exact (kk_8 I p s).2
  obtain ⟨eD, hD2⟩ := hD p (by omega)
  have walk : ∀ post : Int32 → SX → Prop, wX_flowOn_96 post (nI m) (nI p) (nI (D p)) (nI (is_sz (D p))) (nI (if is_sg (D p) = true then 0 else D (p + 1))) f_typeCount f_methodCount f_linked f_faultPlace (nI h) f_active f_ticksLeft f_outcome f_latestResult a_typeAbove a_fieldSet a_methodType a_methodName a_codeLength a_bytes a_isStart a_heightAt a_kindsAt (upd a_isWaiting (m * 32 + p) 0) FK1 a_globals a_objectType a_fieldValue a_isMarked a_frameMethod a_frameAt a_frameHeight a_slots → wpX_flowOn post (f_typeCount, f_methodCount, f_linked, f_faultPlace, f_flowHeight, f_active, f_ticksLeft, f_outcome, f_latestResult, a_typeAbove, a_fieldSet, a_methodType, a_methodName, a_codeLength, a_bytes, a_isStart, a_heightAt, a_kindsAt, a_isWaiting, a_flowKinds, a_globals, a_objectType, a_fieldValue, a_isMarked, a_frameMethod, a_frameAt, a_frameHeight, a_slots) (nI m) (nI p) := by
    intro post J
    unfold wpX_flowOn
    have e : (nI m * 32) + nI p = nI (m * 32 + p) := by simp (disch := omega) only [gm_ml, nI_add]
    refine nm_r e ⟨vp_in_nI (by omega) (by omega), nm_r (by rw [nI_clamp (by omega), gm_nb0]) ⟨vp_in_nI (by omega) (by omega), nm_r (by rw [nI_clamp (by omega), eH]) ⟨4 + h + 1, c2 post ?_⟩⟩⟩
    unfold wX_flowOn_27
    simp (disch := omega) only [nI_clamp, gm_clL, gm_in, gm_inL, gm_ml, gm_al, gm_la, gm_sl, nI_add, pk_mul, gm_eqL, gm_leL, gm_ltL, gm_Lle, gm_Llt, gm_eq, gm_le, gm_lt, gm_m1, forall_eq, true_and, Nat.not_lt_zero, Nat.add_sub_cancel, gm_z2, gm_z3, gm_z9, gm_z16, gm_z18, gm_z32, gm_z36, gm_z64, gm_z1152, not_true_eq_false, not_false_eq_true, false_implies, true_implies, and_true, implies_true, eD]
    refine ⟨fun _ => ev_sizeOf (by omega) ?_, fun z => absurd (Nat.le_refl _) z⟩
    cases z : is_sg (D p)
    · have e2 : is_sz (D p) = 2 := by unfold is_sz; rw [z]; rfl
      rw [e2] at J f2 ⊢
      rw [z] at J
      obtain ⟨eD1, hD3⟩ := hD (p + 1) (by omega)
      refine br_t rfl ⟨vp_in_nI (by omega) (by omega), ?_⟩
      rw [show m * 32 + (p + 1) = m * 32 + p + 1 by omega] at eD1
      rw [eD1]
      exact J
    · have e2 : is_sz (D p) = 1 := by unfold is_sz; rw [z]; rfl
      rw [e2] at J ⊢
      rw [z] at J
      exact br_f (by decide) J
  rcases fl_96 f_typeCount f_methodCount f_linked f_faultPlace f_active f_ticksLeft f_outcome f_latestResult a_typeAbove a_fieldSet a_methodType a_methodName a_codeLength a_bytes a_isStart a_heightAt a_kindsAt (upd a_isWaiting (m * 32 + p) 0) FK1 a_globals a_objectType a_fieldValue a_isMarked a_frameMethod a_frameAt a_frameHeight a_slots F I0 hm eL hn eN (fun p hp => (hD p hp).2) hp h5 eH pk_us rfl hk with ⟨wb, fh, FK, H', K', W', i1, i2, J⟩ | ⟨fh, FK, H', K', W', i1, i2, i3, i4, J⟩
  · exact Or.inl ⟨wb, fh, FK, H', K', W', i1, i2, fun post j => walk post (J post j)⟩
  · exact Or.inr ⟨fh, FK, H', K', W', i1, i2, i3, i4, fun post j => walk post (J post j)⟩
/-! ===== the rounds ===== -/
def xNW (m at' : Nat) (W : Nat → Int32) : Prop := ∀ q, q < at' → W (m * 32 + q) = 0
theorem fl_24 (f_typeCount f_methodCount f_linked f_faultPlace f_active f_ticksLeft f_outcome f_latestResult : Int32) (a_typeAbove a_fieldSet a_methodType a_methodName a_codeLength a_bytes a_isStart a_globals a_objectType a_fieldValue a_isMarked a_frameMethod a_frameAt a_frameHeight a_slots : Nat → Int32) {m L nm tc c0 : Nat} {D : Nat → Nat} {S : Nat → Prop} {Z : Prop} (F : fo_OK tc L D S) (hm : m < 8) (eL : a_codeLength m = nI L) (hn : nm < 16) (eN : a_methodName m = nI nm) (hD : ∀ p, p < 33 → a_bytes (m * 32 + p) = nI (D p) ∧ D p < 256) :
    ∀ d a, a + d = L → ∀ (x2 fh : Int32) (FK H K W : Nat → Int32), XI m L nm D S 99 H K W → c0 ≤ cnP (PB m H K) 864 → (c0 < cnP (PB m H K) 864 ∨ xNW m a W) → (x2 = 0 ∨ x2 = 1) → (x2 = 0 → xNW m a W) → (Z → x2 = 0 ∧ xNW m L W) →
    (WBad D L nm ∧ ∃ (fh' : Int32) (FK' H' K' W' : Nat → Int32), (∀ i, ∃ a, a < 8 ∧ K' i = nI a) ∧ XFr m H K H' K' ∧ ∀ (post : Int32 → SX → Prop) J9 x3, post 0 (f_typeCount, f_methodCount, f_linked, f_faultPlace, fh', f_active, f_ticksLeft, f_outcome, f_latestResult, a_typeAbove, a_fieldSet, a_methodType, a_methodName, a_codeLength, a_bytes, a_isStart, H', K', W', FK', a_globals, a_objectType, a_fieldValue, a_isMarked, a_frameMethod, a_frameAt, a_frameHeight, a_slots) → wX_flowHolds_24 post J9 (nI m) x3 (d + 1) x2 (nI a) f_typeCount f_methodCount f_linked f_faultPlace fh f_active f_ticksLeft f_outcome f_latestResult a_typeAbove a_fieldSet a_methodType a_methodName a_codeLength a_bytes a_isStart H K W FK a_globals a_objectType a_fieldValue a_isMarked a_frameMethod a_frameAt a_frameHeight a_slots) ∨
    (∃ (x2' fh' : Int32) (FK' H' K' W' : Nat → Int32), XI m L nm D S 99 H' K' W' ∧ XMon m H K H' K' ∧ XFr m H K H' K' ∧ c0 ≤ cnP (PB m H' K') 864 ∧ (c0 < cnP (PB m H' K') 864 ∨ xNW m L W') ∧ (x2' = 0 ∨ x2' = 1) ∧ (x2' = 0 → xNW m L W') ∧ (Z → x2' = 0) ∧ ∀ (post : Int32 → SX → Prop) J9 (x3 : Int32), J9 x2' (x3 + 1) f_typeCount f_methodCount f_linked f_faultPlace fh' f_active f_ticksLeft f_outcome f_latestResult a_typeAbove a_fieldSet a_methodType a_methodName a_codeLength a_bytes a_isStart H' K' W' FK' a_globals a_objectType a_fieldValue a_isMarked a_frameMethod a_frameAt a_frameHeight a_slots → wX_flowHolds_24 post J9 (nI m) x3 (d + 1) x2 (nI a) f_typeCount f_methodCount f_linked f_faultPlace fh f_active f_ticksLeft f_outcome f_latestResult a_typeAbove a_fieldSet a_methodType a_methodName a_codeLength a_bytes a_isStart H K W FK a_globals a_objectType a_fieldValue a_isMarked a_frameMethod a_frameAt a_frameHeight a_slots) := by
  have hL := F.2.1
  intro d
  induction d with
  | zero =>
    intro a ha x2 fh FK H K W I h0 h1 hx2 h2 h3
    cases (show a = L by omega)
    refine Or.inr ⟨x2, fh, FK, H, K, W, I, fun q hq h hh e => ⟨e, fun s hs c hc z => z⟩, ⟨fun i _ => rfl, fun i _ => rfl⟩, h0, h1, hx2, h2, fun z => (h3 z).1, fun post J9 x3 J => ?_⟩
    unfold wX_flowHolds_24
    simp (disch := omega) only [nI_clamp, gm_clL, gm_in, gm_inL, gm_ml, gm_al, gm_la, gm_sl, nI_add, pk_mul, gm_eqL, gm_leL, gm_ltL, gm_Lle, gm_Llt, gm_eq, gm_le, gm_lt, gm_m1, forall_eq, true_and, Nat.not_lt_zero, Nat.add_sub_cancel, gm_z2, gm_z3, gm_z9, gm_z16, gm_z18, gm_z32, gm_z36, gm_z64, gm_z1152, not_true_eq_false, not_false_eq_true, false_implies, true_implies, and_true, implies_true, eL]
    exact ⟨fun _ => J, fun z => absurd (Nat.le_refl _) z⟩
  | succ d ih =>
    intro a ha x2 fh FK H K W I h0 h1 hx2 h2 h3
    by_cases hw : W (m * 32 + a) = 0
    · have nw : xNW m a W → xNW m (a + 1) W := fun z q hq => by
        by_cases e : q = a
        · subst e; exact hw
        · exact z q (by omega)
      have walk : ∀ (post : Int32 → SX → Prop) J9 x3, wX_flowHolds_24 post J9 (nI m) x3 (d + 1) x2 (nI (a + 1)) f_typeCount f_methodCount f_linked f_faultPlace fh f_active f_ticksLeft f_outcome f_latestResult a_typeAbove a_fieldSet a_methodType a_methodName a_codeLength a_bytes a_isStart H K W FK a_globals a_objectType a_fieldValue a_isMarked a_frameMethod a_frameAt a_frameHeight a_slots → wX_flowHolds_24 post J9 (nI m) x3 (d + 1 + 1) x2 (nI a) f_typeCount f_methodCount f_linked f_faultPlace fh f_active f_ticksLeft f_outcome f_latestResult a_typeAbove a_fieldSet a_methodType a_methodName a_codeLength a_bytes a_isStart H K W FK a_globals a_objectType a_fieldValue a_isMarked a_frameMethod a_frameAt a_frameHeight a_slots := by
        intro post J9 x3 J
        unfold wX_flowHolds_24
        simp (disch := omega) only [nI_clamp, gm_clL, gm_in, gm_inL, gm_ml, gm_al, gm_la, gm_sl, nI_add, pk_mul, gm_eqL, gm_leL, gm_ltL, gm_Lle, gm_Llt, gm_eq, gm_le, gm_lt, gm_m1, forall_eq, true_and, Nat.not_lt_zero, Nat.add_sub_cancel, gm_z2, gm_z3, gm_z9, gm_z16, gm_z18, gm_z32, gm_z36, gm_z64, gm_z1152, not_true_eq_false, not_false_eq_true, false_implies, true_implies, and_true, implies_true, eL, hw]
        exact ⟨fun z => absurd z (by omega), fun _ => J⟩
      rcases ih (a + 1) (by omega) x2 fh FK H K W I h0 (h1.imp id nw) hx2 (fun z => nw (h2 z)) h3 with ⟨wb, fh', FK', H', K', W', i1, i2, J⟩ | ⟨x2', fh', FK', H', K', W', i1, i2, i3, i4, i5, i6, i7, i8, J⟩
      · exact Or.inl ⟨wb, fh', FK', H', K', W', i1, i2, fun post J9 x3 j => walk post J9 x3 (J post J9 x3 j)⟩
      · exact Or.inr ⟨x2', fh', FK', H', K', W', i1, i2, i3, i4, i5, i6, i7, i8, fun post J9 x3 j => walk post J9 x3 (J post J9 x3 j)⟩
    · have nZ : ¬ Z := fun z => hw ((h3 z).2 a (by omega))
      rcases I.2.1 a (by omega) with ⟨-, e1⟩ | ⟨h, h5, e1⟩
      · exact absurd e1 hw
      · rcases fl_on f_typeCount f_methodCount f_linked f_faultPlace fh f_active f_ticksLeft f_outcome f_latestResult a_typeAbove a_fieldSet a_methodType a_methodName a_codeLength a_bytes a_isStart H K W FK a_globals a_objectType a_fieldValue a_isMarked a_frameMethod a_frameAt a_frameHeight a_slots F I hm eL hn eN hD (show a < L by omega) h5 e1 with ⟨wb, fh', FK', H', K', W', i1, i2, J⟩ | ⟨fh', FK', H', K', W', i1, i2, i3, i4, J⟩
        · refine Or.inl ⟨wb, fh', FK', H', K', W', i1, i2, fun post J9 x3 j => ?_⟩
          unfold wX_flowHolds_24
          simp (disch := omega) only [nI_clamp, gm_clL, gm_in, gm_inL, gm_ml, gm_al, gm_la, gm_sl, nI_add, pk_mul, gm_eqL, gm_leL, gm_ltL, gm_Lle, gm_Llt, gm_eq, gm_le, gm_lt, gm_m1, forall_eq, true_and, Nat.not_lt_zero, Nat.add_sub_cancel, gm_z2, gm_z3, gm_z9, gm_z16, gm_z18, gm_z32, gm_z36, gm_z64, gm_z1152, not_true_eq_false, not_false_eq_true, false_implies, true_implies, and_true, implies_true, eL]
          exact ⟨fun z => absurd z (by omega), fun _ => br_f hw (J _ (br_t rfl j))⟩
        · have walk : ∀ (post : Int32 → SX → Prop) J9 x3, wX_flowHolds_24 post J9 (nI m) x3 (d + 1) 1 (nI (a + 1)) f_typeCount f_methodCount f_linked f_faultPlace fh' f_active f_ticksLeft f_outcome f_latestResult a_typeAbove a_fieldSet a_methodType a_methodName a_codeLength a_bytes a_isStart H' K' W' FK' a_globals a_objectType a_fieldValue a_isMarked a_frameMethod a_frameAt a_frameHeight a_slots → wX_flowHolds_24 post J9 (nI m) x3 (d + 1 + 1) x2 (nI a) f_typeCount f_methodCount f_linked f_faultPlace fh f_active f_ticksLeft f_outcome f_latestResult a_typeAbove a_fieldSet a_methodType a_methodName a_codeLength a_bytes a_isStart H K W FK a_globals a_objectType a_fieldValue a_isMarked a_frameMethod a_frameAt a_frameHeight a_slots := by
            intro post J9 x3 j
            unfold wX_flowHolds_24
            simp (disch := omega) only [nI_clamp, gm_clL, gm_in, gm_inL, gm_ml, gm_al, gm_la, gm_sl, nI_add, pk_mul, gm_eqL, gm_leL, gm_ltL, gm_Lle, gm_Llt, gm_eq, gm_le, gm_lt, gm_m1, forall_eq, true_and, Nat.not_lt_zero, Nat.add_sub_cancel, gm_z2, gm_z3, gm_z9, gm_z16, gm_z18, gm_z32, gm_z36, gm_z64, gm_z1152, not_true_eq_false, not_false_eq_true, false_implies, true_implies, and_true, implies_true, eL]
            exact ⟨fun z => absurd z (by omega), fun _ => br_f hw (J _ (br_f (by decide) j))⟩
          have cm : cnP (PB m H K) 864 ≤ cnP (PB m H' K') 864 := cnP_mono 864 (fun i hi => PB_mon i2 hi)
          have c1 : c0 < cnP (PB m H' K') 864 ∨ xNW m (a + 1) W' := by
            rcases i4 with ⟨j, hj, p1, p2⟩ | i4
            · have : cnP (PB m H K) 864 < cnP (PB m H' K') 864 := cnP_lt 864 (fun i hi => PB_mon i2 hi) ⟨j, hj, p1, p2⟩
              exact Or.inl (by omega)
            · rcases h1 with h1 | h1
              · exact Or.inl (by omega)
              · right
                intro q hq
                rw [i4 q (by omega)]
                by_cases e : q = a
                · subst e; exact pk_us
                · rw [pk_un (by omega)]; exact h1 q (by omega)
          rcases ih (a + 1) (by omega) 1 fh' FK' H' K' W' i1 (by omega) c1 (Or.inr rfl) (fun z => absurd z (by decide)) (fun z => absurd z nZ) with ⟨wb, fh2, FK2, H2, K2, W2, j1, j2, J2⟩ | ⟨x2', fh2, FK2, H2, K2, W2, j1, j2, j3, j4, j5, j6, j7, j8, J2⟩
          · exact Or.inl ⟨wb, fh2, FK2, H2, K2, W2, j1, XFr_t i3 j2, fun post J9 x3 j => walk post J9 x3 (J2 post J9 x3 j)⟩
          · exact Or.inr ⟨x2', fh2, FK2, H2, K2, W2, j1, XMon_t i2 j2, XFr_t i3 j3, j4, j5, j6, j7, j8, fun post J9 x3 j => walk post J9 x3 (J2 post J9 x3 j)⟩
theorem fl_9 (f_typeCount f_methodCount f_linked f_faultPlace f_active f_ticksLeft f_outcome f_latestResult : Int32) (a_typeAbove a_fieldSet a_methodType a_methodName a_codeLength a_bytes a_isStart a_globals a_objectType a_fieldValue a_isMarked a_frameMethod a_frameAt a_frameHeight a_slots : Nat → Int32) {m L nm tc : Nat} {D : Nat → Nat} {S : Nat → Prop} (F : fo_OK tc L D S) (hm : m < 8) (eL : a_codeLength m = nI L) (hn : nm < 16) (eN : a_methodName m = nI nm) (hD : ∀ p, p < 33 → a_bytes (m * 32 + p) = nI (D p) ∧ D p < 256) :
    ∀ d r, r + d = 870 → ∀ (x2 fh : Int32) (FK H K W : Nat → Int32), XI m L nm D S 99 H K W → (x2 = 0 ∨ x2 = 1) → (x2 = 0 → xNW m L W) → (x2 = 1 → r ≤ cnP (PB m H K) 864 ∨ (xNW m L W ∧ r ≤ cnP (PB m H K) 864 + 1)) →
    (WBad D L nm ∧ ∃ (fh' : Int32) (FK' H' K' W' : Nat → Int32), (∀ i, ∃ a, a < 8 ∧ K' i = nI a) ∧ XFr m H K H' K' ∧ ∀ (post : Int32 → SX → Prop), post 0 (f_typeCount, f_methodCount, f_linked, f_faultPlace, fh', f_active, f_ticksLeft, f_outcome, f_latestResult, a_typeAbove, a_fieldSet, a_methodType, a_methodName, a_codeLength, a_bytes, a_isStart, H', K', W', FK', a_globals, a_objectType, a_fieldValue, a_isMarked, a_frameMethod, a_frameAt, a_frameHeight, a_slots) → ∃ n, wX_flowHolds_9 post (nI m) n x2 (nI r) f_typeCount f_methodCount f_linked f_faultPlace fh f_active f_ticksLeft f_outcome f_latestResult a_typeAbove a_fieldSet a_methodType a_methodName a_codeLength a_bytes a_isStart H K W FK a_globals a_objectType a_fieldValue a_isMarked a_frameMethod a_frameAt a_frameHeight a_slots) ∨
    (∃ (fh' : Int32) (FK' H' K' W' : Nat → Int32), XI m L nm D S 99 H' K' W' ∧ XMon m H K H' K' ∧ XFr m H K H' K' ∧ xNW m L W' ∧ ∀ (post : Int32 → SX → Prop), post 1 (f_typeCount, f_methodCount, f_linked, f_faultPlace, fh', f_active, f_ticksLeft, f_outcome, f_latestResult, a_typeAbove, a_fieldSet, a_methodType, a_methodName, a_codeLength, a_bytes, a_isStart, H', K', W', FK', a_globals, a_objectType, a_fieldValue, a_isMarked, a_frameMethod, a_frameAt, a_frameHeight, a_slots) → ∃ n, wX_flowHolds_9 post (nI m) n x2 (nI r) f_typeCount f_methodCount f_linked f_faultPlace fh f_active f_ticksLeft f_outcome f_latestResult a_typeAbove a_fieldSet a_methodType a_methodName a_codeLength a_bytes a_isStart H K W FK a_globals a_objectType a_fieldValue a_isMarked a_frameMethod a_frameAt a_frameHeight a_slots) := by
  intro d
  induction d with
  | zero =>
    intro r hr x2 fh FK H K W I hx h0 h1
    have hc := cnP_le (PB m H K) 864
    have e0 : x2 = 0 := by
      rcases hx with z | z
      · exact z
      · rcases h1 z with z2 | ⟨-, z2⟩ <;> omega
    refine Or.inr ⟨fh, FK, H, K, W, I, fun q hq h hh e => ⟨e, fun s hs c hc z => z⟩, ⟨fun i _ => rfl, fun i _ => rfl⟩, h0 e0, fun post J => ⟨1, ?_⟩⟩
    unfold wX_flowHolds_9
    exact br_f (nI_ge (b := 1000000) (by omega) (by decide)) (br_t e0 J)
  | succ d ih =>
    intro r hr x2 fh FK H K W I hx h0 h1
    have hc := cnP_le (PB m H K) 864
    rcases hx with e0 | e1
    · refine Or.inr ⟨fh, FK, H, K, W, I, fun q hq h hh e => ⟨e, fun s hs c hc z => z⟩, ⟨fun i _ => rfl, fun i _ => rfl⟩, h0 e0, fun post J => ⟨1, ?_⟩⟩
      unfold wX_flowHolds_9
      exact br_f (nI_ge (b := 1000000) (by omega) (by decide)) (br_t e0 J)
    · have hr2 := h1 e1
      rcases fl_24 f_typeCount f_methodCount f_linked f_faultPlace f_active f_ticksLeft f_outcome f_latestResult a_typeAbove a_fieldSet a_methodType a_methodName a_codeLength a_bytes a_isStart a_globals a_objectType a_fieldValue a_isMarked a_frameMethod a_frameAt a_frameHeight a_slots (c0 := cnP (PB m H K) 864) (Z := xNW m L W) F hm eL hn eN hD L 0 (by omega) 0 fh FK H K W I (Nat.le_refl _) (Or.inr (fun q z => absurd z (by omega))) (Or.inl rfl) (fun _ q z => absurd z (by omega)) (fun z => ⟨rfl, z⟩) with ⟨wb, fh', FK', H', K', W', i1, i2, J⟩ | ⟨x2', fh', FK', H', K', W', i1, i2, i3, i4, i5, i6, i7, i8, J⟩
      · refine Or.inl ⟨wb, fh', FK', H', K', W', i1, i2, fun post j => ⟨1, ?_⟩⟩
        unfold wX_flowHolds_9
        refine br_f (nI_ge (b := 1000000) (by omega) (by decide)) (br_f (by rw [e1]; decide) ⟨L + 1, J post _ _ j⟩)
      · have walk : ∀ (post : Int32 → SX → Prop) n, wX_flowHolds_9 post (nI m) n x2' (nI (r + 1)) f_typeCount f_methodCount f_linked f_faultPlace fh' f_active f_ticksLeft f_outcome f_latestResult a_typeAbove a_fieldSet a_methodType a_methodName a_codeLength a_bytes a_isStart H' K' W' FK' a_globals a_objectType a_fieldValue a_isMarked a_frameMethod a_frameAt a_frameHeight a_slots → wX_flowHolds_9 post (nI m) (n + 1) x2 (nI r) f_typeCount f_methodCount f_linked f_faultPlace fh f_active f_ticksLeft f_outcome f_latestResult a_typeAbove a_fieldSet a_methodType a_methodName a_codeLength a_bytes a_isStart H K W FK a_globals a_objectType a_fieldValue a_isMarked a_frameMethod a_frameAt a_frameHeight a_slots := by
          intro post n j
          unfold wX_flowHolds_9
          refine br_f (nI_ge (b := 1000000) (by omega) (by decide)) (br_f (by rw [e1]; decide) ⟨L + 1, J post _ _ ?_⟩)
          rw [nI_1]
          exact j
        have nx : x2' = 1 → r + 1 ≤ cnP (PB m H' K') 864 ∨ (xNW m L W' ∧ r + 1 ≤ cnP (PB m H' K') 864 + 1) := by
          intro z
          rcases hr2 with hr2 | ⟨z2, -⟩
          · rcases i5 with i5 | i5
            · exact Or.inl (by omega)
            · exact Or.inr ⟨i5, by omega⟩
          · rw [i8 z2] at z
            exact absurd z (by decide)
        rcases ih (r + 1) (by omega) x2' fh' FK' H' K' W' i1 i6 i7 nx with ⟨wb, fh2, FK2, H2, K2, W2, j1, j2, J2⟩ | ⟨fh2, FK2, H2, K2, W2, j1, j2, j3, j4, J2⟩
        · exact Or.inl ⟨wb, fh2, FK2, H2, K2, W2, j1, XFr_t i3 j2, fun post j => by obtain ⟨n, hn⟩ := J2 post j; exact ⟨n + 1, walk post n hn⟩⟩
        · exact Or.inr ⟨fh2, FK2, H2, K2, W2, j1, XMon_t i2 j2, XFr_t i3 j3, j4, fun post j => by obtain ⟨n, hn⟩ := J2 post j; exact ⟨n + 1, walk post n hn⟩⟩
/-! ===== the start ===== -/
theorem st_2 (f_typeCount f_methodCount f_linked f_faultPlace f_active f_ticksLeft f_outcome f_latestResult : Int32) (a_typeAbove a_fieldSet a_methodType a_methodName a_codeLength a_bytes a_isStart a_kindsAt a_flowKinds a_globals a_objectType a_fieldValue a_isMarked a_frameMethod a_frameAt a_frameHeight a_slots : Nat → Int32) {m : Nat} {fh : Int32} (hm : m < 8) : ∀ d j, j + d = 32 → ∀ H W : Nat → Int32, (∀ q, q < j → H (m * 32 + q) = -1 ∧ W (m * 32 + q) = 0) → ∃ H' W' : Nat → Int32, (∀ q, q < 32 → H' (m * 32 + q) = -1 ∧ W' (m * 32 + q) = 0) ∧ (∀ i, (i < m * 32 ∨ m * 32 + 32 ≤ i) → H' i = H i) ∧ ∀ post, wX_startFlow_2 post (nI m) f_typeCount f_methodCount f_linked f_faultPlace fh f_active f_ticksLeft f_outcome f_latestResult 1 (nI 32) a_typeAbove a_fieldSet a_methodType a_methodName a_codeLength a_bytes a_isStart H' a_kindsAt W' a_flowKinds a_globals a_objectType a_fieldValue a_isMarked a_frameMethod a_frameAt a_frameHeight a_slots → wX_startFlow_2 post (nI m) f_typeCount f_methodCount f_linked f_faultPlace fh f_active f_ticksLeft f_outcome f_latestResult (d + 1) (nI j) a_typeAbove a_fieldSet a_methodType a_methodName a_codeLength a_bytes a_isStart H a_kindsAt W a_flowKinds a_globals a_objectType a_fieldValue a_isMarked a_frameMethod a_frameAt a_frameHeight a_slots := by
  intro d
  induction d with
  | zero =>
    intro j hj H W h
    cases (show j = 32 by omega)
    exact ⟨H, W, h, fun i _ => rfl, fun post J => J⟩
  | succ d ih =>
    intro j hj H W h
    obtain ⟨H', W', c1, c2, c3⟩ := ih (j + 1) (by omega) (upd H (m * 32 + j) (-1)) (upd W (m * 32 + j) 0) (fun q hq => by
      by_cases e : q = j
      · subst e; exact ⟨pk_us, pk_us⟩
      · rw [pk_un (by omega), pk_un (by omega)]; exact h q (by omega))
    refine ⟨H', W', c1, fun i hi => by rw [c2 i hi, pk_un (by omega)], fun post J => ?_⟩
    have := c3 post J
    unfold wX_startFlow_2
    simp (disch := omega) only [nI_clamp, gm_clL, gm_in, gm_inL, gm_ml, gm_al, gm_la, gm_sl, nI_add, pk_mul, gm_eqL, gm_leL, gm_ltL, gm_Lle, gm_Llt, gm_eq, gm_le, gm_lt, gm_m1, forall_eq, true_and, Nat.not_lt_zero, Nat.add_sub_cancel, gm_z2, gm_z3, gm_z9, gm_z16, gm_z18, gm_z32, gm_z36, gm_z64, gm_z1152, not_true_eq_false, not_false_eq_true, false_implies, true_implies, and_true, implies_true, gm_nb0]
    exact ⟨fun z => absurd z (by omega), fun _ => this⟩
/-- the kinds at the start -/
def i_k (nm s : Nat) : Nat := if s = 0 then 4 else if s = 1 then is_ak nm else 1
theorem i_kC {nm s c : Nat} (hs : s < 4) (hc : c < 3) (h : kd_in c (i_k nm s)) : c = wy_c (wy_i nm) s := by
  obtain ⟨-, -, w0, w1, w2, w3⟩ := wy_iD (nm := nm)
  have k1 : ∀ c, c < 3 → kd_in c 1 → c = 2 := by unfold kd_in; decide
  rcases (by omega : s = 0 ∨ s = 1 ∨ s = 2 ∨ s = 3) with rfl | rfl | rfl | rfl
  · rw [w0]; exact kd_4 c hc h
  · rw [w1]
    have h' : kd_in c (is_ak nm) := h
    unfold is_ak at h'
    split at h'
    · rename_i z; rw [if_pos z]; exact kd_2 c hc h'
    · rename_i z; rw [if_neg z]; exact kd_4 c hc h'
  · rw [w2]; exact k1 c hc h
  · rw [w3]; exact k1 c hc h
theorem i_kI (nm : Nat) {s : Nat} (hs : s < 4) : kd_in (wy_c (wy_i nm) s) (i_k nm s) ∧ 0 < i_k nm s ∧ i_k nm s < 8 := by
  obtain ⟨-, -, w0, w1, w2, w3⟩ := wy_iD (nm := nm)
  have ha : 0 < is_ak nm ∧ is_ak nm < 8 := by unfold is_ak; split <;> omega
  have k1 : kd_in 2 1 := by unfold kd_in; decide
  rcases (by omega : s = 0 ∨ s = 1 ∨ s = 2 ∨ s = 3) with rfl | rfl | rfl | rfl
  · rw [w0]; exact ⟨kd_i4, (by decide : 0 < 4), (by decide : 4 < 8)⟩
  · rw [w1]
    refine ⟨?_, ha.1, ha.2⟩
    show kd_in _ (is_ak nm)
    unfold is_ak
    split
    · exact kd_i2
    · exact kd_i4
  · rw [w2]; exact ⟨k1, (by decide : 0 < 1), (by decide : 1 < 8)⟩
  · rw [w3]; exact ⟨k1, (by decide : 0 < 1), (by decide : 1 < 8)⟩
theorem fl_start (f_typeCount f_methodCount f_linked f_faultPlace f_flowHeight f_active f_ticksLeft f_outcome f_latestResult : Int32) (a_typeAbove a_fieldSet a_methodType a_methodName a_codeLength a_bytes a_isStart a_heightAt a_kindsAt a_isWaiting a_flowKinds a_globals a_objectType a_fieldValue a_isMarked a_frameMethod a_frameAt a_frameHeight a_slots : Nat → Int32) {m L nm tc : Nat} {D : Nat → Nat} {S : Nat → Prop} (F : fo_OK tc L D S) (hm : m < 8) (eL : a_codeLength m = nI L) (hn : nm < 16) (eN : a_methodName m = nI nm) (KB : ∀ i, ∃ a, a < 8 ∧ a_kindsAt i = nI a) :
    ∃ (fh : Int32) (FK H' K' W' : Nat → Int32), XI m L nm D S 99 H' K' W' ∧ XFr m a_heightAt a_kindsAt H' K' ∧ H' (m * 32) = nI 0 ∧ (∀ s, s < 4 → kd_in (wy_c (wy_i nm) s) (kk m K' 0 s)) ∧ ∀ post : SX → Prop, post (f_typeCount, f_methodCount, f_linked, f_faultPlace, fh, f_active, f_ticksLeft, f_outcome, f_latestResult, a_typeAbove, a_fieldSet, a_methodType, a_methodName, a_codeLength, a_bytes, a_isStart, H', K', W', FK, a_globals, a_objectType, a_fieldValue, a_isMarked, a_frameMethod, a_frameAt, a_frameHeight, a_slots) → wpX_startFlow post (f_typeCount, f_methodCount, f_linked, f_faultPlace, f_flowHeight, f_active, f_ticksLeft, f_outcome, f_latestResult, a_typeAbove, a_fieldSet, a_methodType, a_methodName, a_codeLength, a_bytes, a_isStart, a_heightAt, a_kindsAt, a_isWaiting, a_flowKinds, a_globals, a_objectType, a_fieldValue, a_isMarked, a_frameMethod, a_frameAt, a_frameHeight, a_slots) (nI m) := by
  obtain ⟨H1, W1, c1, c2, c3⟩ := st_2 f_typeCount f_methodCount f_linked f_faultPlace f_active f_ticksLeft f_outcome f_latestResult a_typeAbove a_fieldSet a_methodType a_methodName a_codeLength a_bytes a_isStart a_kindsAt a_flowKinds a_globals a_objectType a_fieldValue a_isMarked a_frameMethod a_frameAt a_frameHeight a_slots (fh := f_flowHeight) hm 32 0 rfl a_heightAt a_isWaiting (fun q z => absurd z (by omega))
  have hL := F.2.1
  have nr : ∀ p, p < 32 → ∀ h, h ≤ 5 → ¬ H1 (m * 32 + p) = nI h := fun p hp h hh e => by
    rw [(c1 p hp).1] at e
    exact gp_m1n (by omega) e.symm
  have I0 : XI m L nm D S 99 H1 a_kindsAt W1 := ⟨KB, fun p hp => Or.inl (c1 p hp), fun p hp h hh e => absurd e (nr p (by omega) h hh), fun _ p hp h hh e => absurd e (nr p (by omega) h hh), fun p hp h hh e => absurd e (nr p (by omega) h hh)⟩
  have hFK : ∀ s, s < 4 + 0 → upd (upd (upd (upd a_flowKinds 0 4) 1 (nI (is_ak nm))) 2 1) 3 1 s = nI (i_k nm s) ∧ 0 < i_k nm s ∧ i_k nm s < 8 := by
    intro s hs
    refine ⟨?_, (i_kI nm (by omega)).2⟩
    rcases (by omega : s = 0 ∨ s = 1 ∨ s = 2 ∨ s = 3) with rfl | rfl | rfl | rfl <;> rfl
  have hw : xw D L nm 0 0 (i_k nm) := ⟨⟨_, way_i D L nm, wy_iD.1⟩, fun s hs c hc hk => ⟨_, way_i D L nm, wy_iD.1, (i_kC (by omega) hc hk).symm⟩⟩
  obtain ⟨-, -, w3⟩ := ar_x f_typeCount f_methodCount f_linked f_faultPlace f_active f_ticksLeft f_outcome f_latestResult a_typeAbove a_fieldSet a_methodType a_methodName a_codeLength a_bytes a_isStart H1 a_kindsAt W1 (upd (upd (upd (upd a_flowKinds 0 4) 1 (nI (is_ak nm))) 2 1) 3 1) a_globals a_objectType a_fieldValue a_isMarked a_frameMethod a_frameAt a_frameHeight a_slots (p' := 0) (h' := 0) (f := i_k nm) hm hL eL (by omega) (by omega) hFK KB
  obtain ⟨H', K', W', A, J⟩ := w3 F.1 (Or.inl (c1 0 (by omega)).1)
  obtain ⟨x1, x2, x3, x4, x5, x6⟩ := ar_XI F I0 A F.1 (by omega) F.2.2.1 (fun s hs => (hFK s hs).2) (fun _ => hw)
  refine ⟨nI 0, upd (upd (upd (upd a_flowKinds 0 4) 1 (nI (is_ak nm))) 2 1) 3 1, H', K', W', x1, ⟨fun i hi => (x6.1 i hi).trans (c2 i hi), x6.2⟩, x3.1, fun s hs => x3.2 s (by omega) _ (wy_cB _ _) (i_kI nm hs).1, fun post j => ⟨33, c3 post ?_⟩⟩
  unfold wX_startFlow_2
  refine br_t (by decide) (nm_e ⟨vp_in_nI hm (by omega), ?_⟩)
  rw [nI_clamp (by omega), eN]
  exact ev_ak (by omega) (nm_e (nm_e (nm_e (J _ j))))
/-! ===== the end ===== -/
theorem xf_in {m L nm tc : Nat} {D : Nat → Nat} {S : Nat → Prop} {H K W : Nat → Int32} (F : fo_OK tc L D S) (I : XI m L nm D S 99 H K W) (nw : xNW m L W) (e0 : H (m * 32) = nI 0) (k0 : ∀ s, s < 4 → kd_in (wy_c (wy_i nm) s) (kk m K 0 s)) {st h : Nat} (w : Way D L nm st h) : H (m * 32 + wy_p st) = nI h ∧ ∀ s, s < 4 + h → kd_in (wy_c st s) (kk m K (wy_p st) s) := by
  have key : WV L S st h ∧ H (m * 32 + wy_p st) = nI h ∧ ∀ s, s < 4 + h → kd_in (wy_c st s) (kk m K (wy_p st) s) := by
    refine w (fun st h => WV L S st h ∧ H (m * 32 + wy_p st) = nI h ∧ ∀ s, s < 4 + h → kd_in (wy_c st s) (kk m K (wy_p st) s)) ⟨way_v F (way_i D L nm), ?_, ?_⟩ (fun st h p' v hok hs hp' => ?_)
    · rw [wy_iD.1]; exact e0
    · rw [wy_iD.1]; exact fun s hs => k0 s (by omega)
    · obtain ⟨⟨v1, v2, v3, v4⟩, e, hk⟩ := v
      have hb := (fo_b4 F v1 v2).1
      obtain ⟨c1, c2⟩ := I.2.2.2.2 _ v1 h v3 e (nw _ v1) (by have := F.2.1; omega)
      obtain ⟨d1, d2, d3⟩ := c2 p' hs
      obtain ⟨n1, n2, -⟩ := wy_nxD (p' := p') hb hok v3
      obtain ⟨b1, b2⟩ := wy_nrB hb hok v3
      obtain ⟨-, a2⟩ := xk_A (p' := p') (F.2.2.2 _ v1 v2).1 hb v3 hk c1
      refine ⟨⟨by rw [n1]; exact hp', by rw [n1]; exact fo_su F v1 v2 hs hp', b2, by rw [n2]; exact b1⟩, by rw [n1]; exact d2, fun s hs => ?_⟩
      rw [n1]
      exact d3 s hs _ (wy_cB _ _) (a2 s hs)
  exact key.2
theorem xf_end {m L nm tc : Nat} {D : Nat → Nat} {S : Nat → Prop} {H K W : Nat → Int32} (F : fo_OK tc L D S) (I : XI m L nm D S 99 H K W) (nw : xNW m L W) (e0 : H (m * 32) = nI 0) (k0 : ∀ s, s < 4 → kd_in (wy_c (wy_i nm) s) (kk m K 0 s)) : ¬ WBad D L nm := by
  rintro ⟨st, h, w, z⟩
  obtain ⟨v1, v2, v3, v4⟩ := way_v F w
  obtain ⟨e, hk⟩ := xf_in F I nw e0 k0 w
  have hb := (fo_b4 F v1 v2).1
  obtain ⟨c1, c2⟩ := I.2.2.2.2 _ v1 h v3 e (nw _ v1) (by have := F.2.1; omega)
  rcases z with z | ⟨p', hs, z⟩ | ⟨st', h', w', ep, hne⟩
  · exact z (xk_A (p' := 0) (F.2.2.2 _ v1 v2).1 hb v3 hk c1).1
  · have := (c2 p' hs).1
    omega
  · obtain ⟨-, -, v3', -⟩ := way_v F w'
    obtain ⟨e', -⟩ := xf_in F I nw e0 k0 w'
    rw [ep, e] at e'
    exact hne (gp_inj (by omega) (by omega) e').symm
def AllR (D : Nat → Nat) (L nm p s : Nat) : Prop := ∀ st h, Way D L nm st h → wy_p st = p → wy_c st s = 1
theorem xf_ref {m L nm tc p h s : Nat} {D : Nat → Nat} {S : Nat → Prop} {H K W : Nat → Int32} (F : fo_OK tc L D S) (I : XI m L nm D S 99 H K W) (nw : xNW m L W) (e0 : H (m * 32) = nI 0) (k0 : ∀ s, s < 4 → kd_in (wy_c (wy_i nm) s) (kk m K 0 s)) (hp : p < L) (h5 : h ≤ 5) (eH : H (m * 32 + p) = nI h) (hs : s < 4 + h) : K ((m * 32 + p) * 9 + s) = 4 ↔ AllR D L nm p s := by
  have nb := xf_end F I nw e0 k0
  obtain ⟨k8, ek⟩ := kk_8 I p s
  have hpos := (I.2.2.1 p hp h h5 eH).2 s hs
  obtain ⟨w1, w2⟩ := I.2.2.2.1 nb p hp h h5 eH
  constructor
  · intro e st h' w ep
    obtain ⟨e2, hk⟩ := xf_in F I nw e0 k0 w
    obtain ⟨-, -, v3', -⟩ := way_v F w
    rw [ep, eH] at e2
    have := gp_inj (by omega) (by omega) e2
    subst this
    have hk2 := hk s hs
    rw [ep] at hk2
    have e4 : kk m K p s = 4 := by
      unfold kk; rw [e]; rfl
    rw [e4] at hk2
    exact kd_4 _ (wy_cB _ _) hk2
  · intro a
    have e4 : kk m K p s = 4 := kd_is4 _ k8 hpos (fun c hc hk => by
      obtain ⟨st, d1, d2, d3⟩ := w2 s hs c hc hk
      rw [← d3]
      exact a st h d1 d2)
    rw [ek, e4]
    rfl
/-- the class's check of the flow -/
theorem xf_all (f_typeCount f_methodCount f_linked f_faultPlace f_flowHeight f_active f_ticksLeft f_outcome f_latestResult : Int32) (a_typeAbove a_fieldSet a_methodType a_methodName a_codeLength a_bytes a_isStart a_heightAt a_kindsAt a_isWaiting a_flowKinds a_globals a_objectType a_fieldValue a_isMarked a_frameMethod a_frameAt a_frameHeight a_slots : Nat → Int32) {m L nm tc : Nat} {D : Nat → Nat} {S : Nat → Prop} (F : fo_OK tc L D S) (hm : m < 8) (eL : a_codeLength m = nI L) (hn : nm < 16) (eN : a_methodName m = nI nm) (hD : ∀ p, p < 33 → a_bytes (m * 32 + p) = nI (D p) ∧ D p < 256) (KB : ∀ i, ∃ a, a < 8 ∧ a_kindsAt i = nI a) :
    (WBad D L nm ∧ ∃ (fh : Int32) (FK H' K' W' : Nat → Int32), (∀ i, ∃ a, a < 8 ∧ K' i = nI a) ∧ XFr m a_heightAt a_kindsAt H' K' ∧ ∀ post : Int32 → SX → Prop, post 0 (f_typeCount, f_methodCount, f_linked, f_faultPlace, fh, f_active, f_ticksLeft, f_outcome, f_latestResult, a_typeAbove, a_fieldSet, a_methodType, a_methodName, a_codeLength, a_bytes, a_isStart, H', K', W', FK, a_globals, a_objectType, a_fieldValue, a_isMarked, a_frameMethod, a_frameAt, a_frameHeight, a_slots) → wpX_flowHolds post (f_typeCount, f_methodCount, f_linked, f_faultPlace, f_flowHeight, f_active, f_ticksLeft, f_outcome, f_latestResult, a_typeAbove, a_fieldSet, a_methodType, a_methodName, a_codeLength, a_bytes, a_isStart, a_heightAt, a_kindsAt, a_isWaiting, a_flowKinds, a_globals, a_objectType, a_fieldValue, a_isMarked, a_frameMethod, a_frameAt, a_frameHeight, a_slots) (nI m)) ∨
    (¬ WBad D L nm ∧ ∃ (fh : Int32) (FK H' K' W' : Nat → Int32), XI m L nm D S 99 H' K' W' ∧ xNW m L W' ∧ H' (m * 32) = nI 0 ∧ (∀ s, s < 4 → kd_in (wy_c (wy_i nm) s) (kk m K' 0 s)) ∧ XFr m a_heightAt a_kindsAt H' K' ∧ ∀ post : Int32 → SX → Prop, post 1 (f_typeCount, f_methodCount, f_linked, f_faultPlace, fh, f_active, f_ticksLeft, f_outcome, f_latestResult, a_typeAbove, a_fieldSet, a_methodType, a_methodName, a_codeLength, a_bytes, a_isStart, H', K', W', FK, a_globals, a_objectType, a_fieldValue, a_isMarked, a_frameMethod, a_frameAt, a_frameHeight, a_slots) → wpX_flowHolds post (f_typeCount, f_methodCount, f_linked, f_faultPlace, f_flowHeight, f_active, f_ticksLeft, f_outcome, f_latestResult, a_typeAbove, a_fieldSet, a_methodType, a_methodName, a_codeLength, a_bytes, a_isStart, a_heightAt, a_kindsAt, a_isWaiting, a_flowKinds, a_globals, a_objectType, a_fieldValue, a_isMarked, a_frameMethod, a_frameAt, a_frameHeight, a_slots) (nI m)) := by
  obtain ⟨fh, FK, H1, K1, W1, s1, s2, s3, s4, s5⟩ := fl_start f_typeCount f_methodCount f_linked f_faultPlace f_flowHeight f_active f_ticksLeft f_outcome f_latestResult a_typeAbove a_fieldSet a_methodType a_methodName a_codeLength a_bytes a_isStart a_heightAt a_kindsAt a_isWaiting a_flowKinds a_globals a_objectType a_fieldValue a_isMarked a_frameMethod a_frameAt a_frameHeight a_slots F hm eL hn eN KB
  rcases fl_9 f_typeCount f_methodCount f_linked f_faultPlace f_active f_ticksLeft f_outcome f_latestResult a_typeAbove a_fieldSet a_methodType a_methodName a_codeLength a_bytes a_isStart a_globals a_objectType a_fieldValue a_isMarked a_frameMethod a_frameAt a_frameHeight a_slots F hm eL hn eN hD 870 0 rfl 1 fh FK H1 K1 W1 s1 (Or.inr rfl) (fun z => absurd z (by decide)) (fun _ => Or.inl (by omega)) with ⟨wb, fh2, FK2, H2, K2, W2, j1, j2, J2⟩ | ⟨fh2, FK2, H2, K2, W2, j1, j2, j3, j4, J2⟩
  · exact Or.inl ⟨wb, fh2, FK2, H2, K2, W2, j1, XFr_t s2 j2, fun post j => s5 _ (J2 post j)⟩
  · obtain ⟨q1, q2⟩ := j2 0 (by omega) 0 (by omega) s3
    have k0 : ∀ s, s < 4 → kd_in (wy_c (wy_i nm) s) (kk m K2 0 s) := fun s hs => q2 s (by omega) _ (wy_cB _ _) (s4 s hs)
    exact Or.inr ⟨xf_end F j1 j4 q1 k0, fh2, FK2, H2, K2, W2, j1, j4, q1, k0, XFr_t s2 j3, fun post j => s5 _ (J2 post j)⟩
