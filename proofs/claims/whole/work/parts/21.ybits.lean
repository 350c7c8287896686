/-! ===== longs by their bits ===== -/
def lb (w : Int64) (i : Nat) : Bool := w.toBitVec.getLsbD i
theorem lb_ext {w v : Int64} (h : ∀ i, i < 64 → lb w i = lb v i) : w = v := wb_inj (BitVec.eq_of_getLsbD_eq (fun i hi => h i hi))
theorem lb_0 (i : Nat) : lb 0 i = false := BitVec.getLsbD_zero
theorem lb_lN {n i : Nat} (hi : i < 64) : lb (lN n) i = decide (n / 2 ^ i % 2 = 1) := by
  unfold lb
  rw [wb_tb, BitVec.getLsbD_ofNat, Nat.testBit_eq_decide_div_mod_eq]
  simp [hi]
theorem lb_one : ∀ k, k < 64 → (1 : Int64) <<< ((nI k).toInt64 &&& 63) = lN (2 ^ k) := by decide +kernel
theorem lb_set (w : Int64) {k i : Nat} (hk : k < 64) (hi : i < 64) : lb (w ||| ((1 : Int64) <<< ((nI k).toInt64 &&& 63))) i = (lb w i || decide (i = k)) := by
  rw [lb_one k hk]
  unfold lb
  rw [Int64.toBitVec_or, BitVec.getLsbD_or, wb_tb, BitVec.getLsbD_ofNat, Nat.testBit_two_pow]
  congr 1
  by_cases e : i = k
  · subst e; simp [hi]
  · have : ¬ k = i := fun z => e z.symm
    simp [e, this]
theorem lb_tst (w : Int64) {k : Nat} (hk : k < 64) : ((w.toUInt64 >>> ((nI k).toInt64.toUInt64 &&& Int64.toUInt64 63)).toInt64 &&& 1) = if lb w k = true then 1 else 0 := by
  obtain ⟨n, hn, rfl⟩ := wb_of w
  rw [lb_lN hk]
  rw [wb_cu k hk]
  apply wb_inj
  apply BitVec.eq_of_getLsbD_eq
  intro i hi
  rw [Int64.toBitVec_and]
  have e : ((lN n).toUInt64 >>> UInt64.ofNat k).toInt64.toBitVec = (lN n).toBitVec >>> k := by
    show ((lN n).toUInt64 >>> UInt64.ofNat k).toBitVec = _
    rw [UInt64.toBitVec_shiftRight]
    show (lN n).toUInt64.toBitVec >>> ((UInt64.ofNat k).toBitVec % 64) = _
    have h2 : ((UInt64.ofNat k).toBitVec % 64 : BitVec 64).toNat = k := by
      revert k
      decide +kernel
    rw [BitVec.ushiftRight_eq', h2]
    rfl
  rw [e, BitVec.getLsbD_and, BitVec.getLsbD_ushiftRight, wb_tb, BitVec.getLsbD_ofNat]
  have h1 : ∀ i, i < 64 → (1 : Int64).toBitVec.getLsbD i = decide (i = 0) := by decide +kernel
  rw [h1 i hi]
  by_cases e0 : i = 0
  · subst e0
    rw [Nat.add_zero, Nat.testBit_eq_decide_div_mod_eq]
    by_cases e1 : n / 2 ^ k % 2 = 1
    · rw [if_pos (decide_eq_true e1), h1 0 (by omega)]
      simp [hk, e1]
    · rw [if_neg (fun z => e1 (of_decide_eq_true z))]
      show _ = (0 : Int64).toBitVec.getLsbD 0
      rw [show (0 : Int64).toBitVec.getLsbD 0 = false from BitVec.getLsbD_zero]
      simp [e1]
  · have : ((if decide (n / 2 ^ k % 2 = 1) = true then 1 else 0 : Int64).toBitVec.getLsbD i) = false := by
      split
      · rw [h1 i hi]; simp [e0]
      · exact BitVec.getLsbD_zero
    rw [this]
    simp [e0]
theorem lb_tEq (w v : Int64) {k : Nat} (hk : k < 64) : (((w.toUInt64 >>> ((nI k).toInt64.toUInt64 &&& Int64.toUInt64 63)).toInt64 &&& 1) = ((v.toUInt64 >>> ((nI k).toInt64.toUInt64 &&& Int64.toUInt64 63)).toInt64 &&& 1)) = (lb w k = lb v k) := by
  rw [lb_tst w hk, lb_tst v hk]
  cases lb w k <;> cases lb v k <;> simp
/-- the numbers in a set of 36864 bits -/
def sb (a : Nat → Int64) (st : Nat) : Prop := lb (a (st / 64)) (st % 64) = true
theorem sb_set (a : Nat → Int64) {st : Nat} (st' : Nat) : sb (vp_updL a (st / 64) (a (st / 64) ||| ((1 : Int64) <<< ((nI (st % 64)).toInt64 &&& 63)))) st' ↔ sb a st' ∨ st' = st := by
  unfold sb
  by_cases e : st' / 64 = st / 64
  · rw [e, pk_uLs, lb_set _ (by omega) (by omega), Bool.or_eq_true]
    constructor
    · rintro (z | z)
      · exact Or.inl z
      · have := of_decide_eq_true z
        exact Or.inr (by omega)
    · rintro (z | z)
      · exact Or.inl z
      · subst z; exact Or.inr (by simp)
  · rw [pk_uLn e]
    constructor
    · exact fun z => Or.inl z
    · rintro (z | z)
      · exact z
      · subst z; exact absurd rfl e
/-! ===== the reference's stack of kinds ===== -/
theorem yr_k : ∀ h, h < 6 → ∀ r, r < 32 → 1 ≤ h → ((nI r >>> (nI (h - 1) &&& 31)) &&& 1) = nI (r / 2 ^ (h - 1) % 2) := by decide +kernel
theorem yr_p : ∀ h, h < 6 → ∀ r, r < 2 ^ h → 1 ≤ h → (nI r &&& (((1 : Int32) <<< (nI (h - 1) &&& 31)) ^^^ (-1))) = nI (r % 2 ^ (h - 1)) := by decide +kernel
theorem yr_u : ∀ h, h < 5 → ∀ r, r < 2 ^ h → ∀ k, k < 2 → (nI r ||| (nI k <<< (nI h &&& 31))) = nI (r + k * 2 ^ h) := by decide +kernel
theorem ev_ypop (g_types g_methods g_place g_result g_linked g_bad g_active g_ticks g_code : Int32) (b_above b_ownField b_mType b_mName b_mLength b_bytes b_starts : Nat → Int32) (b_seen b_done : Nat → Int64) (b_heights b_local b_sure b_objType b_objField b_marked b_global b_fMethod b_fPc b_fHigh b_fLocal b_fEntry : Nat → Int32) {post : Int32 → SY → Prop} {h r : Nat} (h5 : h ≤ 5) (hr : r < 2 ^ h) (h1 : 1 ≤ h) (J : post (nI (r / 2 ^ (h - 1) % 2)) (g_types, g_methods, g_place, g_result, g_linked, g_bad, nI (h - 1), nI (r % 2 ^ (h - 1)), g_active, g_ticks, g_code, b_above, b_ownField, b_mType, b_mName, b_mLength, b_bytes, b_starts, b_seen, b_done, b_heights, b_local, b_sure, b_objType, b_objField, b_marked, b_global, b_fMethod, b_fPc, b_fHigh, b_fLocal, b_fEntry)) : wpY_pop post (g_types, g_methods, g_place, g_result, g_linked, g_bad, nI h, nI r, g_active, g_ticks, g_code, b_above, b_ownField, b_mType, b_mName, b_mLength, b_bytes, b_starts, b_seen, b_done, b_heights, b_local, b_sure, b_objType, b_objField, b_marked, b_global, b_fMethod, b_fPc, b_fHigh, b_fLocal, b_fEntry) := by
  have hp := wy_p5 h (by omega)
  unfold wpY_pop
  refine br_f (nI_ne0 (by omega) (by omega)) (nm_r (gm_sl (n := 1) h1) (nm_r (yr_k h (by omega) r (by omega) h1) (nm_r (yr_p h (by omega) r hr h1) J)))
theorem ev_ypop0 (g_types g_methods g_place g_result g_linked g_bad g_refs g_active g_ticks g_code : Int32) (b_above b_ownField b_mType b_mName b_mLength b_bytes b_starts : Nat → Int32) (b_seen b_done : Nat → Int64) (b_heights b_local b_sure b_objType b_objField b_marked b_global b_fMethod b_fPc b_fHigh b_fLocal b_fEntry : Nat → Int32) {post : Int32 → SY → Prop} (J : post 0 (g_types, g_methods, g_place, g_result, g_linked, 1, nI 0, g_refs, g_active, g_ticks, g_code, b_above, b_ownField, b_mType, b_mName, b_mLength, b_bytes, b_starts, b_seen, b_done, b_heights, b_local, b_sure, b_objType, b_objField, b_marked, b_global, b_fMethod, b_fPc, b_fHigh, b_fLocal, b_fEntry)) : wpY_pop post (g_types, g_methods, g_place, g_result, g_linked, g_bad, nI 0, g_refs, g_active, g_ticks, g_code, b_above, b_ownField, b_mType, b_mName, b_mLength, b_bytes, b_starts, b_seen, b_done, b_heights, b_local, b_sure, b_objType, b_objField, b_marked, b_global, b_fMethod, b_fPc, b_fHigh, b_fLocal, b_fEntry) := br_t rfl J
theorem pop_any (g_types g_methods g_place g_result g_linked g_high g_refs g_active g_ticks g_code : Int32) (b_above b_ownField b_mType b_mName b_mLength b_bytes b_starts : Nat → Int32) (b_seen b_done : Nat → Int64) (b_heights b_local b_sure b_objType b_objField b_marked b_global b_fMethod b_fPc b_fHigh b_fLocal b_fEntry : Nat → Int32) {post : Int32 → SY → Prop} (J : ∀ r hi re, post r (g_types, g_methods, g_place, g_result, g_linked, 1, hi, re, g_active, g_ticks, g_code, b_above, b_ownField, b_mType, b_mName, b_mLength, b_bytes, b_starts, b_seen, b_done, b_heights, b_local, b_sure, b_objType, b_objField, b_marked, b_global, b_fMethod, b_fPc, b_fHigh, b_fLocal, b_fEntry)) : wpY_pop post (g_types, g_methods, g_place, g_result, g_linked, 1, g_high, g_refs, g_active, g_ticks, g_code, b_above, b_ownField, b_mType, b_mName, b_mLength, b_bytes, b_starts, b_seen, b_done, b_heights, b_local, b_sure, b_objType, b_objField, b_marked, b_global, b_fMethod, b_fPc, b_fHigh, b_fLocal, b_fEntry) := ⟨fun _ => J _ _ _, fun _ => nm_e (nm_e (nm_e (J _ _ _)))⟩
theorem need_any (g_types g_methods g_place g_result g_linked g_high g_refs g_active g_ticks g_code : Int32) (b_above b_ownField b_mType b_mName b_mLength b_bytes b_starts : Nat → Int32) (b_seen b_done : Nat → Int64) (b_heights b_local b_sure b_objType b_objField b_marked b_global b_fMethod b_fPc b_fHigh b_fLocal b_fEntry : Nat → Int32) {post : SY → Prop} (k : Int32) (J : ∀ hi re, post (g_types, g_methods, g_place, g_result, g_linked, 1, hi, re, g_active, g_ticks, g_code, b_above, b_ownField, b_mType, b_mName, b_mLength, b_bytes, b_starts, b_seen, b_done, b_heights, b_local, b_sure, b_objType, b_objField, b_marked, b_global, b_fMethod, b_fPc, b_fHigh, b_fLocal, b_fEntry)) : wpY_need post (g_types, g_methods, g_place, g_result, g_linked, 1, g_high, g_refs, g_active, g_ticks, g_code, b_above, b_ownField, b_mType, b_mName, b_mLength, b_bytes, b_starts, b_seen, b_done, b_heights, b_local, b_sure, b_objType, b_objField, b_marked, b_global, b_fMethod, b_fPc, b_fHigh, b_fLocal, b_fEntry) k := by
  unfold wpY_need
  exact pop_any g_types g_methods g_place g_result g_linked g_high g_refs g_active g_ticks g_code b_above b_ownField b_mType b_mName b_mLength b_bytes b_starts b_seen b_done b_heights b_local b_sure b_objType b_objField b_marked b_global b_fMethod b_fPc b_fHigh b_fLocal b_fEntry (fun r hi re => ⟨fun _ => J hi re, fun _ => J hi re⟩)
theorem push_any (g_types g_methods g_place g_result g_linked g_high g_refs g_active g_ticks g_code : Int32) (b_above b_ownField b_mType b_mName b_mLength b_bytes b_starts : Nat → Int32) (b_seen b_done : Nat → Int64) (b_heights b_local b_sure b_objType b_objField b_marked b_global b_fMethod b_fPc b_fHigh b_fLocal b_fEntry : Nat → Int32) {post : SY → Prop} (k : Int32) (J : ∀ hi re, post (g_types, g_methods, g_place, g_result, g_linked, 1, hi, re, g_active, g_ticks, g_code, b_above, b_ownField, b_mType, b_mName, b_mLength, b_bytes, b_starts, b_seen, b_done, b_heights, b_local, b_sure, b_objType, b_objField, b_marked, b_global, b_fMethod, b_fPc, b_fHigh, b_fLocal, b_fEntry)) : wpY_push post (g_types, g_methods, g_place, g_result, g_linked, 1, g_high, g_refs, g_active, g_ticks, g_code, b_above, b_ownField, b_mType, b_mName, b_mLength, b_bytes, b_starts, b_seen, b_done, b_heights, b_local, b_sure, b_objType, b_objField, b_marked, b_global, b_fMethod, b_fPc, b_fHigh, b_fLocal, b_fEntry) k := ⟨fun _ => J _ _, fun _ => nm_e (nm_e (J _ _))⟩
theorem reach_bad (g_types g_methods g_place g_result g_linked g_high g_refs g_active g_ticks g_code : Int32) (b_above b_ownField b_mType b_mName b_mLength b_bytes b_starts : Nat → Int32) (b_seen b_done : Nat → Int64) (b_heights b_local b_sure b_objType b_objField b_marked b_global b_fMethod b_fPc b_fHigh b_fLocal b_fEntry : Nat → Int32) {post : SY → Prop} (x y : Int32) (J : post (g_types, g_methods, g_place, g_result, g_linked, 1, g_high, g_refs, g_active, g_ticks, g_code, b_above, b_ownField, b_mType, b_mName, b_mLength, b_bytes, b_starts, b_seen, b_done, b_heights, b_local, b_sure, b_objType, b_objField, b_marked, b_global, b_fMethod, b_fPc, b_fHigh, b_fLocal, b_fEntry)) : wpY_reach post (g_types, g_methods, g_place, g_result, g_linked, 1, g_high, g_refs, g_active, g_ticks, g_code, b_above, b_ownField, b_mType, b_mName, b_mLength, b_bytes, b_starts, b_seen, b_done, b_heights, b_local, b_sure, b_objType, b_objField, b_marked, b_global, b_fMethod, b_fPc, b_fHigh, b_fLocal, b_fEntry) x y := br_f (by decide) J
theorem ev_need (g_types g_methods g_place g_result g_linked g_active g_ticks g_code : Int32) (b_above b_ownField b_mType b_mName b_mLength b_bytes b_starts : Nat → Int32) (b_seen b_done : Nat → Int64) (b_heights b_local b_sure b_objType b_objField b_marked b_global b_fMethod b_fPc b_fHigh b_fLocal b_fEntry : Nat → Int32) {post : SY → Prop} {h r k : Nat} (h5 : h ≤ 5) (hr : r < 2 ^ h) (hk : k < 2) (J1 : 1 ≤ h → r / 2 ^ (h - 1) % 2 = k → post (g_types, g_methods, g_place, g_result, g_linked, 0, nI (h - 1), nI (r % 2 ^ (h - 1)), g_active, g_ticks, g_code, b_above, b_ownField, b_mType, b_mName, b_mLength, b_bytes, b_starts, b_seen, b_done, b_heights, b_local, b_sure, b_objType, b_objField, b_marked, b_global, b_fMethod, b_fPc, b_fHigh, b_fLocal, b_fEntry)) (J0 : ¬ (1 ≤ h ∧ r / 2 ^ (h - 1) % 2 = k) → ∀ hi re, post (g_types, g_methods, g_place, g_result, g_linked, 1, hi, re, g_active, g_ticks, g_code, b_above, b_ownField, b_mType, b_mName, b_mLength, b_bytes, b_starts, b_seen, b_done, b_heights, b_local, b_sure, b_objType, b_objField, b_marked, b_global, b_fMethod, b_fPc, b_fHigh, b_fLocal, b_fEntry)) : wpY_need post (g_types, g_methods, g_place, g_result, g_linked, 0, nI h, nI r, g_active, g_ticks, g_code, b_above, b_ownField, b_mType, b_mName, b_mLength, b_bytes, b_starts, b_seen, b_done, b_heights, b_local, b_sure, b_objType, b_objField, b_marked, b_global, b_fMethod, b_fPc, b_fHigh, b_fLocal, b_fEntry) (nI k) := by
  unfold wpY_need
  rcases Nat.eq_zero_or_pos h with rfl | h1
  · exact ev_ypop0 g_types g_methods g_place g_result g_linked 0 (nI r) g_active g_ticks g_code b_above b_ownField b_mType b_mName b_mLength b_bytes b_starts b_seen b_done b_heights b_local b_sure b_objType b_objField b_marked b_global b_fMethod b_fPc b_fHigh b_fLocal b_fEntry ⟨fun _ => J0 (by omega) _ _, fun _ => J0 (by omega) _ _⟩
  · have hm : r / 2 ^ (h - 1) % 2 < 2 := Nat.mod_lt _ (by decide)
    refine ev_ypop g_types g_methods g_place g_result g_linked 0 g_active g_ticks g_code b_above b_ownField b_mType b_mName b_mLength b_bytes b_starts b_seen b_done b_heights b_local b_sure b_objType b_objField b_marked b_global b_fMethod b_fPc b_fHigh b_fLocal b_fEntry h5 hr h1 ?_
    by_cases e : r / 2 ^ (h - 1) % 2 = k
    · exact br_t (by rw [e]) (J1 h1 e)
    · exact br_f (fun z => e (gp_inj (by omega) (by omega) z)) (J0 (fun w => e w.2) _ _)
theorem ev_ypush (g_types g_methods g_place g_result g_linked g_active g_ticks g_code : Int32) (b_above b_ownField b_mType b_mName b_mLength b_bytes b_starts : Nat → Int32) (b_seen b_done : Nat → Int64) (b_heights b_local b_sure b_objType b_objField b_marked b_global b_fMethod b_fPc b_fHigh b_fLocal b_fEntry : Nat → Int32) {post : SY → Prop} {h r k : Nat} (h5 : h ≤ 5) (hr : r < 2 ^ h) (hk : k < 2) (J1 : h < 5 → post (g_types, g_methods, g_place, g_result, g_linked, 0, nI (h + 1), nI (r + k * 2 ^ h), g_active, g_ticks, g_code, b_above, b_ownField, b_mType, b_mName, b_mLength, b_bytes, b_starts, b_seen, b_done, b_heights, b_local, b_sure, b_objType, b_objField, b_marked, b_global, b_fMethod, b_fPc, b_fHigh, b_fLocal, b_fEntry)) (J0 : ¬ h < 5 → post (g_types, g_methods, g_place, g_result, g_linked, 1, nI h, nI r, g_active, g_ticks, g_code, b_above, b_ownField, b_mType, b_mName, b_mLength, b_bytes, b_starts, b_seen, b_done, b_heights, b_local, b_sure, b_objType, b_objField, b_marked, b_global, b_fMethod, b_fPc, b_fHigh, b_fLocal, b_fEntry)) : wpY_push post (g_types, g_methods, g_place, g_result, g_linked, 0, nI h, nI r, g_active, g_ticks, g_code, b_above, b_ownField, b_mType, b_mName, b_mLength, b_bytes, b_starts, b_seen, b_done, b_heights, b_local, b_sure, b_objType, b_objField, b_marked, b_global, b_fMethod, b_fPc, b_fHigh, b_fLocal, b_fEntry) (nI k) := by
  unfold wpY_push
  refine pk_eq h 5 (fun e => J0 (by omega)) (fun e => nm_r (yr_u h (by omega) r hr k hk) (nm_r (nI_1 h) (J1 (by omega))))
