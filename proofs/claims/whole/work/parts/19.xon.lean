def fl_Q (post : Int32 → SX → Prop) (m p o z sz : Int32) (u : SX) : Prop := match u with
  | (f_typeCount2, f_methodCount2, f_linked2, f_faultPlace2, f_flowHeight2, f_active2, f_ticksLeft2, f_outcome2, f_latestResult2, a_typeAbove2, a_fieldSet2, a_methodType2, a_methodName2, a_codeLength2, a_bytes2, a_isStart2, a_heightAt2, a_kindsAt2, a_isWaiting2, a_flowKinds2, a_globals2, a_objectType2, a_fieldValue2, a_isMarked2, a_frameMethod2, a_frameAt2, a_frameHeight2, a_slots2) => ((o = 18 → post 1 (f_typeCount2, f_methodCount2, f_linked2, f_faultPlace2, f_flowHeight2, f_active2, f_ticksLeft2, f_outcome2, f_latestResult2, a_typeAbove2, a_fieldSet2, a_methodType2, a_methodName2, a_codeLength2, a_bytes2, a_isStart2, a_heightAt2, a_kindsAt2, a_isWaiting2, a_flowKinds2, a_globals2, a_objectType2, a_fieldValue2, a_isMarked2, a_frameMethod2, a_frameAt2, a_frameHeight2, a_slots2)) ∧ (¬ o = 18 → ((o = 10 → wpX_arrive (fun r u => match u with | (f_typeCount3, f_methodCount3, f_linked3, f_faultPlace3, f_flowHeight3, f_active3, f_ticksLeft3, f_outcome3, f_latestResult3, a_typeAbove3, a_fieldSet3, a_methodType3, a_methodName3, a_codeLength3, a_bytes3, a_isStart3, a_heightAt3, a_kindsAt3, a_isWaiting3, a_flowKinds3, a_globals3, a_objectType3, a_fieldValue3, a_isMarked3, a_frameMethod3, a_frameAt3, a_frameHeight3, a_slots3) => (narrow .boolean (Value.int r) = Value.int r ∧ (post r (f_typeCount3, f_methodCount3, f_linked3, f_faultPlace3, f_flowHeight3, f_active3, f_ticksLeft3, f_outcome3, f_latestResult3, a_typeAbove3, a_fieldSet3, a_methodType3, a_methodName3, a_codeLength3, a_bytes3, a_isStart3, a_heightAt3, a_kindsAt3, a_isWaiting3, a_flowKinds3, a_globals3, a_objectType3, a_fieldValue3, a_isMarked3, a_frameMethod3, a_frameAt3, a_frameHeight3, a_slots3)))) (f_typeCount2, f_methodCount2, f_linked2, f_faultPlace2, f_flowHeight2, f_active2, f_ticksLeft2, f_outcome2, f_latestResult2, a_typeAbove2, a_fieldSet2, a_methodType2, a_methodName2, a_codeLength2, a_bytes2, a_isStart2, a_heightAt2, a_kindsAt2, a_isWaiting2, a_flowKinds2, a_globals2, a_objectType2, a_fieldValue2, a_isMarked2, a_frameMethod2, a_frameAt2, a_frameHeight2, a_slots2) m z) ∧ (¬ o = 10 → ((o = 11 → wpX_arrive (fun r u => match u with | (f_typeCount3, f_methodCount3, f_linked3, f_faultPlace3, f_flowHeight3, f_active3, f_ticksLeft3, f_outcome3, f_latestResult3, a_typeAbove3, a_fieldSet3, a_methodType3, a_methodName3, a_codeLength3, a_bytes3, a_isStart3, a_heightAt3, a_kindsAt3, a_isWaiting3, a_flowKinds3, a_globals3, a_objectType3, a_fieldValue3, a_isMarked3, a_frameMethod3, a_frameAt3, a_frameHeight3, a_slots3) => ((r = 0 → post 0 (f_typeCount3, f_methodCount3, f_linked3, f_faultPlace3, f_flowHeight3, f_active3, f_ticksLeft3, f_outcome3, f_latestResult3, a_typeAbove3, a_fieldSet3, a_methodType3, a_methodName3, a_codeLength3, a_bytes3, a_isStart3, a_heightAt3, a_kindsAt3, a_isWaiting3, a_flowKinds3, a_globals3, a_objectType3, a_fieldValue3, a_isMarked3, a_frameMethod3, a_frameAt3, a_frameHeight3, a_slots3)) ∧ (¬ r = 0 → wX_flowOn_166 post m p sz f_typeCount3 f_methodCount3 f_linked3 f_faultPlace3 f_flowHeight3 f_active3 f_ticksLeft3 f_outcome3 f_latestResult3 a_typeAbove3 a_fieldSet3 a_methodType3 a_methodName3 a_codeLength3 a_bytes3 a_isStart3 a_heightAt3 a_kindsAt3 a_isWaiting3 a_flowKinds3 a_globals3 a_objectType3 a_fieldValue3 a_isMarked3 a_frameMethod3 a_frameAt3 a_frameHeight3 a_slots3))) (f_typeCount2, f_methodCount2, f_linked2, f_faultPlace2, f_flowHeight2, f_active2, f_ticksLeft2, f_outcome2, f_latestResult2, a_typeAbove2, a_fieldSet2, a_methodType2, a_methodName2, a_codeLength2, a_bytes2, a_isStart2, a_heightAt2, a_kindsAt2, a_isWaiting2, a_flowKinds2, a_globals2, a_objectType2, a_fieldValue2, a_isMarked2, a_frameMethod2, a_frameAt2, a_frameHeight2, a_slots2) m z) ∧ (¬ o = 11 → wX_flowOn_166 post m p sz f_typeCount2 f_methodCount2 f_linked2 f_faultPlace2 f_flowHeight2 f_active2 f_ticksLeft2 f_outcome2 f_latestResult2 a_typeAbove2 a_fieldSet2 a_methodType2 a_methodName2 a_codeLength2 a_bytes2 a_isStart2 a_heightAt2 a_kindsAt2 a_isWaiting2 a_flowKinds2 a_globals2 a_objectType2 a_fieldValue2 a_isMarked2 a_frameMethod2 a_frameAt2 a_frameHeight2 a_slots2))))))
/-- one instruction of the class's check -/
theorem XGrow_t {m : Nat} {H K W H1 K1 W1 H2 K2 W2 : Nat → Int32} (m1 : XMon m H K H1 K1) (m2 : XMon m H1 K1 H2 K2) (a : XGrow m H K W H1 K1 W1) (b : XGrow m H1 K1 W1 H2 K2 W2) : XGrow m H K W H2 K2 W2 := by
  rcases a with ⟨j, hj, p1, p2⟩ | a
  · exact Or.inl ⟨j, hj, PB_mon m2 hj p1, p2⟩
  · rcases b with ⟨j, hj, p1, p2⟩ | b
    · exact Or.inl ⟨j, hj, p1, fun z => p2 (PB_mon m1 hj z)⟩
    · exact Or.inr (fun q hq => (b q hq).trans (a q hq))
theorem fl_96 (f_typeCount f_methodCount f_linked f_faultPlace f_active f_ticksLeft f_outcome f_latestResult : Int32) (a_typeAbove a_fieldSet a_methodType a_methodName a_codeLength a_bytes a_isStart a_heightAt a_kindsAt a_isWaiting a_flowKinds a_globals a_objectType a_fieldValue a_isMarked a_frameMethod a_frameAt a_frameHeight a_slots : Nat → Int32) {m L nm tc p h b0 : Nat} {D : Nat → Nat} {S : Nat → Prop} (F : fo_OK tc L D S) (I : XI m L nm D S p a_heightAt a_kindsAt a_isWaiting) (hm : m < 8) (eL : a_codeLength m = nI L) (hn : nm < 16) (eN : a_methodName m = nI nm) (hD : ∀ p, p < 33 → D p < 256)
    (hp : p < L) (h5 : h ≤ 5) (eH : a_heightAt (m * 32 + p) = nI h) (eW : a_isWaiting (m * 32 + p) = 0) (hb0 : b0 = if is_sg (D p) = true then 0 else D (p + 1)) (hk : ∀ s, s < 4 + h → a_flowKinds s = nI (kk m a_kindsAt p s)) :
    (WBad D L nm ∧ ∃ (fh : Int32) (FK H' K' W' : Nat → Int32), (∀ i, ∃ a, a < 8 ∧ K' i = nI a) ∧ XFr m a_heightAt a_kindsAt H' K' ∧ ∀ post : Int32 → SX → Prop, post 0 (f_typeCount, f_methodCount, f_linked, f_faultPlace, fh, f_active, f_ticksLeft, f_outcome, f_latestResult, a_typeAbove, a_fieldSet, a_methodType, a_methodName, a_codeLength, a_bytes, a_isStart, H', K', W', FK, a_globals, a_objectType, a_fieldValue, a_isMarked, a_frameMethod, a_frameAt, a_frameHeight, a_slots) → wX_flowOn_96 post (nI m) (nI p) (nI (D p)) (nI (is_sz (D p))) (nI b0) f_typeCount f_methodCount f_linked f_faultPlace (nI h) f_active f_ticksLeft f_outcome f_latestResult a_typeAbove a_fieldSet a_methodType a_methodName a_codeLength a_bytes a_isStart a_heightAt a_kindsAt a_isWaiting a_flowKinds a_globals a_objectType a_fieldValue a_isMarked a_frameMethod a_frameAt a_frameHeight a_slots) ∨
    (∃ (fh : Int32) (FK H' K' W' : Nat → Int32), XI m L nm D S 99 H' K' W' ∧ XMon m a_heightAt a_kindsAt H' K' ∧ XFr m a_heightAt a_kindsAt H' K' ∧ XGrow m a_heightAt a_kindsAt a_isWaiting H' K' W' ∧ ∀ post : Int32 → SX → Prop, post 1 (f_typeCount, f_methodCount, f_linked, f_faultPlace, fh, f_active, f_ticksLeft, f_outcome, f_latestResult, a_typeAbove, a_fieldSet, a_methodType, a_methodName, a_codeLength, a_bytes, a_isStart, H', K', W', FK, a_globals, a_objectType, a_fieldValue, a_isMarked, a_frameMethod, a_frameAt, a_frameHeight, a_slots) → wX_flowOn_96 post (nI m) (nI p) (nI (D p)) (nI (is_sz (D p))) (nI b0) f_typeCount f_methodCount f_linked f_faultPlace (nI h) f_active f_ticksLeft f_outcome f_latestResult a_typeAbove a_fieldSet a_methodType a_methodName a_codeLength a_bytes a_isStart a_heightAt a_kindsAt a_isWaiting a_flowKinds a_globals a_objectType a_fieldValue a_isMarked a_frameMethod a_frameAt a_frameHeight a_slots) := by
  have hL := F.2.1
  obtain ⟨hS, hpos⟩ := I.2.2.1 p hp h h5 eH
  obtain ⟨f1, f2, f3, f4, f5⟩ := F.2.2.2 p hp hS
  have hb4 := fo_b4 F hp hS
  have hD1 := hD (p + 1) (by omega)
  have hb256 : b0 < 256 := by rw [hb0]; split <;> omega
  have hdbl : is_sg (D p) = false → b0 = D (p + 1) := fun z => by rw [hb0, z]; rfl
  have hs0 : is_sg (D p) = true → b0 = 0 := fun z => by rw [hb0, z]; rfl
  have hok0 : xk_ok (D p) b0 nm (kk m a_kindsAt p) h ↔ xk_ok (D p) (D (p + 1)) nm (kk m a_kindsAt p) h := by
    cases z : is_sg (D p)
    · rw [hdbl z]
    · rw [hs0 z]; exact (sg_ok f1 z).symm
  have ht0 : ∀ s, xk_t (D p) b0 (kk m a_kindsAt p) h s = xk_t (D p) (D (p + 1)) (kk m a_kindsAt p) h s := by
    intro s
    cases z : is_sg (D p)
    · rw [hdbl z]
    · rw [hs0 z]; exact (sg_t f1 z).symm
  have hb14 : D p = 1 → b0 < 4 := fun z => by rw [hdbl (by rw [z]; rfl)]; exact hb4.1 z
  have hb24 : D p = 2 → b0 < 4 := fun z => by rw [hdbl (by rw [z]; rfl)]; exact hb4.2 z
  have hkk8 : ∀ s, kk m a_kindsAt p s < 8 := fun s => (kk_8 I p s).1
  have hk3 : ∀ s, s < 4 + h → a_flowKinds s = nI (kk m a_kindsAt p s) ∧ 0 < kk m a_kindsAt p s ∧ kk m a_kindsAt p s < 8 := fun s hs => ⟨hk s hs, hpos s hs, hkk8 s⟩
  have hwp : ¬ WBad D L nm → xw D L nm p h (kk m a_kindsAt p) := fun nb => I.2.2.2.1 nb p hp h h5 eH
  obtain ⟨fh, FK, t1, t2⟩ := ev_tg f_typeCount f_methodCount f_linked f_faultPlace f_active f_ticksLeft f_outcome f_latestResult a_typeAbove a_fieldSet a_methodType a_methodName a_codeLength a_bytes a_isStart a_heightAt a_kindsAt a_isWaiting a_flowKinds a_globals a_objectType a_fieldValue a_isMarked a_frameMethod a_frameAt a_frameHeight a_slots (k := kk m a_kindsAt p) hm f1 hb256 hb14 hb24 hn eN h5 hk3
  by_cases hx : xk_ok (D p) (D (p + 1)) nm (kk m a_kindsAt p) h
  · have hx0 := hok0.mpr hx
    have h5' := xk_h5 h5 hx
    obtain ⟨rfl, hFK0⟩ := t1 hx0
    have hFK : ∀ s, s < 4 + wy_h (D p) h → FK s = nI (xk_t (D p) (D (p + 1)) (kk m a_kindsAt p) h s) ∧ 0 < xk_t (D p) (D (p + 1)) (kk m a_kindsAt p) h s ∧ xk_t (D p) (D (p + 1)) (kk m a_kindsAt p) h s < 8 := fun s hs => ⟨by rw [hFK0 s hs, ht0 s], xk_pos f1 hb4.1 hx (fun s hs => ⟨hpos s hs, hkk8 s⟩) hs⟩
    -- the end: closure at p
    have close : ∀ H' K' W', XI m L nm D S p H' K' W' → XMon m a_heightAt a_kindsAt H' K' → XRow m a_heightAt a_kindsAt a_isWaiting K' W' → (∀ p', is_su (D p) (D (p + 1)) p p' → p' < L ∧ H' (m * 32 + p') = nI (wy_h (D p) h) ∧ ∀ s, s < 4 + wy_h (D p) h → kd_sub (xk_t (D p) (D (p + 1)) (kk m a_kindsAt p) h s) (kk m K' p' s)) → XI m L nm D S 99 H' K' W' := by
      intro H' K' W' I' M' R' hsu
      refine XI_close I' (fun _ hw0 h' hh' eH' => ?_)
      obtain ⟨m1, m2⟩ := M' p (by omega) h h5 eH
      rw [m1] at eH'
      cases gp_inj (by omega) (by omega) eH'
      obtain ⟨r1, r2⟩ := R' p (by omega) hw0
      obtain ⟨c1, c2⟩ := xk_cg hb4.1 (r2 h h5 eH) hx
      exact ⟨c1, fun p' hs => by
        obtain ⟨d1, d2, d3⟩ := hsu p' hs
        exact ⟨d1, d2, fun s hs => by rw [c2 s hs]; exact d3 s hs⟩⟩
    have bad : ∀ p', is_su (D p) (D (p + 1)) p p' → L ≤ p' → WBad D L nm := by
      intro p' hs hLp
      refine Classical.byContradiction fun nb => ?_
      obtain ⟨⟨st, a1, a2⟩, -⟩ := hwp nb
      exact nb ⟨st, h, a1, Or.inr (Or.inl ⟨p', by rw [a2]; exact hs, hLp⟩)⟩
    have nx : ∀ p', is_su (D p) (D (p + 1)) p p' → ¬ WBad D L nm → p' < L → xw D L nm p' (wy_h (D p) h) (xk_t (D p) (D (p + 1)) (kk m a_kindsAt p) h) := fun p' hs nb hp' => xw_next (m := m) F hp hS h5 nb (hwp nb) hx hs hp'
    have hz := hD p (by omega)
    by_cases e18 : D p = 18
    · refine Or.inr ⟨nI (wy_h (D p) h), FK, a_heightAt, a_kindsAt, a_isWaiting, close _ _ _ I (fun q hq h hh e => ⟨e, fun s hs c hc z => z⟩) (fun q hq e => ⟨e, fun h hh e s hs => rfl⟩) (fun p' hs => ?_), fun q hq h hh e => ⟨e, fun s hs c hc z => z⟩, ⟨fun i _ => rfl, fun i _ => rfl⟩, Or.inr (fun q hq => rfl), fun post J => ?_⟩
      · rcases hs with ⟨z | z, -⟩ | ⟨z, z2, -⟩
        · omega
        · omega
        · exact absurd e18 z2
      · unfold wX_flowOn_96
        refine t2 post (fl_Q post (nI m) (nI p) (nI (D p)) (nI b0) (nI (is_sz (D p)))) (fun z => absurd hx0 z) (fun _ => ?_)
        exact br_t (by rw [e18]; rfl) J
    · have n18 : ¬ nI (D p) = 18 := by rw [gm_eqL (by omega) (by omega)]; exact e18
      by_cases e10 : D p = 10
      · have hsu : ∀ p', is_su (D p) (D (p + 1)) p p' ↔ p' = D (p + 1) := fun p' => ⟨fun z => by rcases z with ⟨-, z⟩ | ⟨z, -⟩; exact z; exact absurd e10 z, fun z => Or.inl ⟨Or.inl e10, z⟩⟩
        have eb : b0 = D (p + 1) := hdbl (by rw [e10]; rfl)
        rcases ar1 f_typeCount f_methodCount f_linked f_faultPlace f_active f_ticksLeft f_outcome f_latestResult a_typeAbove a_fieldSet a_methodType a_methodName a_codeLength a_bytes a_isStart a_heightAt a_kindsAt a_isWaiting FK a_globals a_objectType a_fieldValue a_isMarked a_frameMethod a_frameAt a_frameHeight a_slots F I hm eL h5' (p' := D (p + 1)) (by omega) hFK (fun z => fo_su F hp hS ((hsu _).mpr rfl) z) (bad _ ((hsu _).mpr rfl)) (nx _ ((hsu _).mpr rfl)) with ⟨wb, J2⟩ | ⟨hp', H', K', W', i1, i2, i3, i4, i5, i6, J2⟩
        · refine Or.inl ⟨wb, nI (wy_h (D p) h), FK, a_heightAt, a_kindsAt, a_isWaiting, I.1, ⟨fun i _ => rfl, fun i _ => rfl⟩, fun post J => ?_⟩
          unfold wX_flowOn_96
          refine t2 post (fl_Q post (nI m) (nI p) (nI (D p)) (nI b0) (nI (is_sz (D p)))) (fun z => absurd hx0 z) (fun _ => ?_)
          refine br_f n18 (br_t (by rw [e10]; rfl) ?_)
          rw [eb]
          exact J2 _ ⟨rfl, J⟩
        · refine Or.inr ⟨nI (wy_h (D p) h), FK, H', K', W', close _ _ _ i1 i2 i4 (fun p' hs => ?_), i2, i6, i5, fun post J => ?_⟩
          · cases (hsu p').mp hs
            exact ⟨hp', i3.1, i3.2⟩
          · unfold wX_flowOn_96
            refine t2 post (fl_Q post (nI m) (nI p) (nI (D p)) (nI b0) (nI (is_sz (D p)))) (fun z => absurd hx0 z) (fun _ => ?_)
            refine br_f n18 (br_t (by rw [e10]; rfl) ?_)
            rw [eb]
            exact J2 _ ⟨rfl, J⟩
      · have n10 : ¬ nI (D p) = 10 := by rw [gm_eqL (by omega) (by omega)]; exact e10
        have su2 : is_su (D p) (D (p + 1)) p (p + is_sz (D p)) := Or.inr ⟨e10, e18, rfl⟩
        by_cases e11 : D p = 11
        · have su1 : is_su (D p) (D (p + 1)) p (D (p + 1)) := Or.inl ⟨Or.inr e11, rfl⟩
          have eb : b0 = D (p + 1) := hdbl (by rw [e11]; rfl)
          rcases ar1 f_typeCount f_methodCount f_linked f_faultPlace f_active f_ticksLeft f_outcome f_latestResult a_typeAbove a_fieldSet a_methodType a_methodName a_codeLength a_bytes a_isStart a_heightAt a_kindsAt a_isWaiting FK a_globals a_objectType a_fieldValue a_isMarked a_frameMethod a_frameAt a_frameHeight a_slots F I hm eL h5' (p' := D (p + 1)) (by omega) hFK (fun z => fo_su F hp hS su1 z) (bad _ su1) (nx _ su1) with ⟨wb, J2⟩ | ⟨hp', H', K', W', i1, i2, i3, i4, i5, i6, J2⟩
          · refine Or.inl ⟨wb, nI (wy_h (D p) h), FK, a_heightAt, a_kindsAt, a_isWaiting, I.1, ⟨fun i _ => rfl, fun i _ => rfl⟩, fun post J => ?_⟩
            unfold wX_flowOn_96
            refine t2 post (fl_Q post (nI m) (nI p) (nI (D p)) (nI b0) (nI (is_sz (D p)))) (fun z => absurd hx0 z) (fun _ => ?_)
            refine br_f n18 (br_f n10 (br_t (by rw [e11]; rfl) ?_))
            rw [eb]
            exact J2 _ (br_t rfl J)
          · rcases ar1 f_typeCount f_methodCount f_linked f_faultPlace f_active f_ticksLeft f_outcome f_latestResult a_typeAbove a_fieldSet a_methodType a_methodName a_codeLength a_bytes a_isStart H' K' W' FK a_globals a_objectType a_fieldValue a_isMarked a_frameMethod a_frameAt a_frameHeight a_slots F i1 hm eL h5' (p' := p + is_sz (D p)) (by omega) hFK (fun z => fo_su F hp hS su2 z) (bad _ su2) (nx _ su2) with ⟨wb, J3⟩ | ⟨hp2, H2, K2, W2, j1, j2, j3, j4, j5, j6, J3⟩
            · refine Or.inl ⟨wb, nI (wy_h (D p) h), FK, H', K', W', i1.1, i6, fun post J => ?_⟩
              unfold wX_flowOn_96
              refine t2 post (fl_Q post (nI m) (nI p) (nI (D p)) (nI b0) (nI (is_sz (D p)))) (fun z => absurd hx0 z) (fun _ => ?_)
              refine br_f n18 (br_f n10 (br_t (by rw [e11]; rfl) ?_))
              rw [eb]
              refine J2 _ (br_f (by decide) ?_)
              unfold wX_flowOn_166
              rw [nI_add]
              exact J3 _ ⟨rfl, J⟩
            · have m12 := XMon_t i2 j2
              have r12 : XRow m a_heightAt a_kindsAt a_isWaiting K2 W2 := by
                intro q hq e
                obtain ⟨a1, a2⟩ := j4 q hq e
                obtain ⟨b1, b2⟩ := i4 q hq a1
                refine ⟨b1, fun h hh eq s hs => ?_⟩
                rw [a2 h hh (i2 q hq h hh eq).1 s hs]
                exact b2 h hh eq s hs
              refine Or.inr ⟨nI (wy_h (D p) h), FK, H2, K2, W2, close _ _ _ j1 m12 r12 (fun p' hs => ?_), m12, XFr_t i6 j6, XGrow_t i2 j2 i5 j5, fun post J => ?_⟩
              · rcases hs with ⟨-, rfl⟩ | ⟨-, -, rfl⟩
                · obtain ⟨q1, q2⟩ := j2 _ (by omega) _ h5' i3.1
                  exact ⟨hp', q1, fun s hs c hc z => q2 s hs c hc (i3.2 s hs c hc z)⟩
                · exact ⟨hp2, j3.1, j3.2⟩
              · unfold wX_flowOn_96
                refine t2 post (fl_Q post (nI m) (nI p) (nI (D p)) (nI b0) (nI (is_sz (D p)))) (fun z => absurd hx0 z) (fun _ => ?_)
                refine br_f n18 (br_f n10 (br_t (by rw [e11]; rfl) ?_))
                rw [eb]
                refine J2 _ (br_f (by decide) ?_)
                unfold wX_flowOn_166
                rw [nI_add]
                exact J3 _ ⟨rfl, J⟩
        · have n11 : ¬ nI (D p) = 11 := by rw [gm_eqL (by omega) (by omega)]; exact e11
          rcases ar1 f_typeCount f_methodCount f_linked f_faultPlace f_active f_ticksLeft f_outcome f_latestResult a_typeAbove a_fieldSet a_methodType a_methodName a_codeLength a_bytes a_isStart a_heightAt a_kindsAt a_isWaiting FK a_globals a_objectType a_fieldValue a_isMarked a_frameMethod a_frameAt a_frameHeight a_slots F I hm eL h5' (p' := p + is_sz (D p)) (by omega) hFK (fun z => fo_su F hp hS su2 z) (bad _ su2) (nx _ su2) with ⟨wb, J2⟩ | ⟨hp', H', K', W', i1, i2, i3, i4, i5, i6, J2⟩
          · refine Or.inl ⟨wb, nI (wy_h (D p) h), FK, a_heightAt, a_kindsAt, a_isWaiting, I.1, ⟨fun i _ => rfl, fun i _ => rfl⟩, fun post J => ?_⟩
            unfold wX_flowOn_96
            refine t2 post (fl_Q post (nI m) (nI p) (nI (D p)) (nI b0) (nI (is_sz (D p)))) (fun z => absurd hx0 z) (fun _ => ?_)
            refine br_f n18 (br_f n10 (br_f n11 ?_))
            unfold wX_flowOn_166
            rw [nI_add]
            exact J2 _ ⟨rfl, J⟩
          · refine Or.inr ⟨nI (wy_h (D p) h), FK, H', K', W', close _ _ _ i1 i2 i4 (fun p' hs => ?_), i2, i6, i5, fun post J => ?_⟩
            · rcases hs with ⟨z | z, -⟩ | ⟨-, -, rfl⟩
              · exact absurd z e10
              · exact absurd z e11
              · exact ⟨hp', i3.1, i3.2⟩
            · unfold wX_flowOn_96
              refine t2 post (fl_Q post (nI m) (nI p) (nI (D p)) (nI b0) (nI (is_sz (D p)))) (fun z => absurd hx0 z) (fun _ => ?_)
              refine br_f n18 (br_f n10 (br_f n11 ?_))
              unfold wX_flowOn_166
              rw [nI_add]
              exact J2 _ ⟨rfl, J⟩
  · have hx0 : ¬ xk_ok (D p) b0 nm (kk m a_kindsAt p) h := fun z => hx (hok0.mp z)
    refine Or.inl ⟨xw_fail F hp hS hwp hx, fh, FK, a_heightAt, a_kindsAt, a_isWaiting, I.1, ⟨fun i _ => rfl, fun i _ => rfl⟩, fun post J => ?_⟩
    unfold wX_flowOn_96
    exact t2 post (fl_Q post (nI m) (nI p) (nI (D p)) (nI b0) (nI (is_sz (D p)))) (fun _ => J) (fun z => absurd z hx0)
