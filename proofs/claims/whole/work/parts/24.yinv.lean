/-! ===== the reference's check: its invariant ===== -/
def yCl (L nm : Nat) (D : Nat → Nat) (H : Nat → Int32) (se : Nat → Int64) (st h : Nat) : Prop := wy_ok (D (wy_p st)) (D (wy_p st + 1)) nm st h ∧ ∀ p', is_su (D (wy_p st)) (D (wy_p st + 1)) (wy_p st) p' → p' < L ∧ H p' = nI (wy_h (D (wy_p st)) h) ∧ sb se (wy_nx (D (wy_p st)) (D (wy_p st + 1)) st h p')
def YI (m L nm : Nat) (D : Nat → Nat) (e : Nat) (H : Nat → Int32) (se dn : Nat → Int64) (su : Nat → Int32) : Prop :=
  (∀ p, p < 32 → H p = -1 ∨ ∃ h, h ≤ 5 ∧ H p = nI h) ∧ (∀ st, st < 36864 → sb se st → ∃ h, h ≤ 5 ∧ H (wy_p st) = nI h ∧ Way D L nm st h) ∧ (∀ p, p < 32 → ∀ h, h ≤ 5 → H p = nI h → ∃ st, st < 36864 ∧ sb se st ∧ wy_p st = p) ∧
  (∀ st, st < 36864 → sb dn st → sb se st) ∧ (∀ p, p < L → ∀ s, s < 9 → (bt (su (m * 32 + p)) s = true ↔ ∀ st, st < 36864 → sb se st → wy_p st = p → wy_c st s = 1)) ∧
  (∀ st, st < 36864 → sb dn st → st ≠ e → ∀ h, h ≤ 5 → H (wy_p st) = nI h → yCl L nm D H se st h)
def BMi (L : Nat) (S : Nat → Prop) (se dn : Nat → Int64) : Prop := (∀ st, st < 36864 → sb se st → wy_p st < L ∧ S (wy_p st)) ∧ (∀ st, st < 36864 → sb dn st → sb se st)
theorem YI_BM {m L nm e tc : Nat} {D : Nat → Nat} {S : Nat → Prop} {H su : Nat → Int32} {se dn : Nat → Int64} (F : fo_OK tc L D S) (I : YI m L nm D e H se dn su) : BMi L S se dn := by
  obtain ⟨i1, i2, i3, i4, i5, i6⟩ := I
  refine ⟨fun st hst hs => ?_, i4⟩
  obtain ⟨h, -, -, w⟩ := i2 st hst hs
  obtain ⟨v1, v2, -⟩ := way_v F w
  exact ⟨v1, v2⟩
theorem wy_lt {p r a b c d : Nat} (hp : p < 32) (hr : r < 32) (ha : a < 2) (hb : b < 2) (hc : c < 3) (hd : d < 3) : wy_e p r a b c d < 36864 := by unfold wy_e; omega
/-- a state more -/
theorem YI_add {m L nm e p' h' st' : Nat} {D : Nat → Nat} {H su su' : Nat → Int32} {se se' dn : Nat → Int64} (hL : L ≤ 32) (I : YI m L nm D e H se dn su) (hp : p' < L) (h5 : h' ≤ 5) (hst : st' < 36864) (ep : wy_p st' = p') (w : Way D L nm st' h') (eH : H p' = -1 ∨ H p' = nI h') (k1 : ∀ st, sb se' st ↔ sb se st ∨ st = st') (k2 : ∀ i, i ≠ m * 32 + p' → su' i = su i) (k3 : ∀ s, s < 9 → (bt (su' (m * 32 + p')) s = true ↔ (bt (su (m * 32 + p')) s = true ∧ wy_c st' s = 1))) : YI m L nm D e (upd H p' (nI h')) se' dn su' := by
  obtain ⟨i1, i2, i3, i4, i5, i6⟩ := I
  have hold : ∀ q, q < 32 → ∀ h, h ≤ 5 → H q = nI h → upd H p' (nI h') q = nI h := by
    intro q hq h hh e
    by_cases e2 : q = p'
    · subst e2
      rw [pk_us]
      rcases eH with z | z
      · rw [e] at z; exact absurd z (fun z => gp_m1n (by omega) z)
      · rw [← z, e]
    · rw [pk_un e2]; exact e
  refine ⟨fun q hq => ?_, fun st hs1 hs2 => ?_, fun q hq h hh e => ?_, fun st hs1 hs2 => (k1 st).mpr (Or.inl (i4 st hs1 hs2)), fun q hq s hs => ?_, fun st hs1 hs2 hne h hh e => ?_⟩
  · by_cases e2 : q = p'
    · subst e2; exact Or.inr ⟨h', h5, pk_us⟩
    · rw [pk_un e2]; exact i1 q hq
  · rcases (k1 st).mp hs2 with z | z
    · obtain ⟨h, a1, a2, a3⟩ := i2 st hs1 z
      exact ⟨h, a1, hold _ (by unfold wy_p; omega) h a1 a2, a3⟩
    · subst z
      rw [ep]
      exact ⟨h', h5, pk_us, w⟩
  · by_cases e2 : q = p'
    · subst e2; exact ⟨st', hst, (k1 st').mpr (Or.inr rfl), ep⟩
    · rw [pk_un e2] at e
      obtain ⟨st, a1, a2, a3⟩ := i3 q hq h hh e
      exact ⟨st, a1, (k1 st).mpr (Or.inl a2), a3⟩
  · by_cases e2 : q = p'
    · subst e2
      rw [k3 s hs, i5 q hq s hs]
      constructor
      · rintro ⟨a, b⟩ st hs1 hs2 ep2
        rcases (k1 st).mp hs2 with z | z
        · exact a st hs1 z ep2
        · subst z; exact b
      · intro a
        exact ⟨fun st hs1 hs2 ep2 => a st hs1 ((k1 st).mpr (Or.inl hs2)) ep2, a st' hst ((k1 st').mpr (Or.inr rfl)) ep⟩
    · rw [k2 _ (by omega), i5 q hq s hs]
      constructor
      · intro a st hs1 hs2 ep2
        rcases (k1 st).mp hs2 with z | z
        · exact a st hs1 z ep2
        · subst z; exact absurd (ep2.symm.trans ep) e2
      · intro a st hs1 hs2 ep2
        exact a st hs1 ((k1 st).mpr (Or.inl hs2)) ep2
  · obtain ⟨ho, a1, a2, a3⟩ := i2 st hs1 (i4 st hs1 hs2)
    have hq : wy_p st < 32 := by unfold wy_p; omega
    have := hold _ hq ho a1 a2
    rw [this] at e
    cases gp_inj (by omega) (by omega) e
    obtain ⟨b1, b2⟩ := i6 st hs1 hs2 hne h a1 a2
    refine ⟨b1, fun q hq => ?_⟩
    obtain ⟨c1, c2, c3⟩ := b2 q hq
    refine ⟨c1, hold q (by omega) _ ?_ c2, (k1 _).mpr (Or.inl c3)⟩
    rcases i1 q (by omega) with z | ⟨hz, z1, z2⟩
    · rw [z] at c2
      have hb : wy_h (D (wy_p st)) h ≤ 100 := by unfold wy_h; split <;> omega
      exact absurd c2.symm (fun z => gp_m1n (by omega) z)
    · rw [z2] at c2
      have hb : wy_h (D (wy_p st)) h ≤ 100 := by unfold wy_h; split <;> omega
      have := gp_inj (by omega) (by omega) c2
      omega
/-- what each end of a step keeps: refused, or the invariant -/
def GI (m L nm : Nat) (D : Nat → Nat) (S : Nat → Prop) (su0 : Nat → Int32) (bad : Int32) (e : Nat) (H : Nat → Int32) (se dn : Nat → Int64) (su : Nat → Int32) : Prop := ((bad = 0 ∧ YI m L nm D e H se dn su ∧ sb se (wy_i nm) ∧ H 0 = nI 0) ∨ (bad = 1 ∧ WBad D L nm ∧ BMi L S se dn)) ∧ ∀ i, (i < m * 32 ∨ m * 32 + 32 ≤ i) → su i = su0 i
/-- one arrival on the reference's side -/
theorem rc1 (g_types g_methods g_place g_result g_linked g_active g_ticks g_code : Int32) (b_above b_ownField b_mType b_mName b_mLength b_bytes b_starts : Nat → Int32) (b_seen b_done : Nat → Int64) (b_heights b_local b_sure b_objType b_objField b_marked b_global b_fMethod b_fPc b_fHigh b_fLocal b_fEntry : Nat → Int32) {post : SY → Prop} {m L nm e tc p' h' st' : Nat} {D : Nat → Nat} {S : Nat → Prop} {su0 : Nat → Int32} (F : fo_OK tc L D S) (hm : m < 8) (eL : b_mLength m = nI L) (hp : p' < 1000) (h5 : h' ≤ 5) (I : YI m L nm D e b_heights b_seen b_done b_sure) (hsu : ∀ i, (i < m * 32 ∨ m * 32 + 32 ≤ i) → b_sure i = su0 i)
    (hl : ∀ s, s < 4 → b_local s = nI (wy_c st' s)) (ep : wy_p st' = p') (hbad : L ≤ p' → WBad D L nm) (hw : p' < L → Way D L nm st' h')
    (J0 : WBad D L nm → post (g_types, g_methods, g_place, g_result, g_linked, 1, nI h', nI (wy_r st'), g_active, g_ticks, g_code, b_above, b_ownField, b_mType, b_mName, b_mLength, b_bytes, b_starts, b_seen, b_done, b_heights, b_local, b_sure, b_objType, b_objField, b_marked, b_global, b_fMethod, b_fPc, b_fHigh, b_fLocal, b_fEntry)) (J1 : p' < L → ∀ (H' : Nat → Int32) (se : Nat → Int64) (su : Nat → Int32), YI m L nm D e H' se b_done su → (∀ i, (i < m * 32 ∨ m * 32 + 32 ≤ i) → su i = su0 i) → H' p' = nI h' → (∀ q, q < 32 → ∀ h, h ≤ 5 → b_heights q = nI h → H' q = nI h) → sb se st' → (∀ st, sb b_seen st → sb se st) → post (g_types, g_methods, g_place, g_result, g_linked, 0, nI h', nI (wy_r st'), g_active, g_ticks, g_code, b_above, b_ownField, b_mType, b_mName, b_mLength, b_bytes, b_starts, se, b_done, H', b_local, su, b_objType, b_objField, b_marked, b_global, b_fMethod, b_fPc, b_fHigh, b_fLocal, b_fEntry)) :
    wpY_reach post (g_types, g_methods, g_place, g_result, g_linked, 0, nI h', nI (wy_r st'), g_active, g_ticks, g_code, b_above, b_ownField, b_mType, b_mName, b_mLength, b_bytes, b_starts, b_seen, b_done, b_heights, b_local, b_sure, b_objType, b_objField, b_marked, b_global, b_fMethod, b_fPc, b_fHigh, b_fLocal, b_fEntry) (nI m) (nI p') := by
  have hL := F.2.1
  have est := wy_enc st'
  rw [ep] at est
  refine ev_reach g_types g_methods g_place g_result g_linked g_active g_ticks g_code b_above b_ownField b_mType b_mName b_mLength b_bytes b_starts b_seen b_done b_heights b_local b_sure b_objType b_objField b_marked b_global b_fMethod b_fPc b_fHigh b_fLocal b_fEntry (l := wy_c st') hm hL eL hp h5 (wy_rB st') hl (wy_cB2 _ _ (by omega)) (wy_cB2 _ _ (by omega)) (wy_cB _ _) (wy_cB _ _) I.1 (fun z => J0 (hbad z)) (fun z h0 h05 e0 hne => J0 ?_) (fun z e0 se su k1 k2 k3 => ?_)
  · obtain ⟨st0, a1, a2, a3⟩ := I.2.2.1 p' (by omega) h0 h05 e0
    obtain ⟨h1, b1, b2, b3⟩ := I.2.1 st0 a1 a2
    rw [a3, e0] at b2
    cases gp_inj (by omega) (by omega) b2
    exact ⟨st0, h0, b3, Or.inr (Or.inr ⟨st', h', hw z, by rw [ep, a3], fun w => hne w.symm⟩)⟩
  · rw [← est] at k1 k3
    have hst : st' < 36864 := by rw [est]; exact wy_lt (by omega) (wy_rB _) (wy_cB2 _ _ (by omega)) (wy_cB2 _ _ (by omega)) (wy_cB _ _) (wy_cB _ _)
    refine J1 z _ se su (YI_add hL I z h5 hst ep (hw z) e0 k1 k2 k3) (fun i hi => by rw [k2 i (by omega)]; exact hsu i hi) pk_us (fun q hq h hh eq => ?_) ((k1 st').mpr (Or.inr rfl)) (fun st hs => (k1 st).mpr (Or.inl hs))
    by_cases e2 : q = p'
    · subst e2
      rw [pk_us]
      rcases e0 with z2 | z2
      · rw [eq] at z2; exact absurd z2 (fun z => gp_m1n (by omega) z)
      · rw [← z2, eq]
    · rw [pk_un e2]; exact eq
/-- an operand that isn't read matters nothing -/
theorem sg_w {o b b' nm st h : Nat} (ho : o < 21) (hs : is_sg o = true) : (wy_ok o b nm st h ↔ wy_ok o b' nm st h) ∧ wy_nr o b st h = wy_nr o b' st h ∧ ∀ s, wy_nl o b st h s = wy_nl o b' st h s := by
  obtain ⟨e1, e2, e3, e4, -⟩ := sg_eq b nm ho hs
  obtain ⟨f1, f2, -⟩ := sg_eq b' nm ho hs
  refine ⟨?_, ?_, fun s => by rw [nl_ne e4, nl_ne e4]⟩
  · unfold wy_ok
    rw [e1, f1]
    exact ⟨fun ⟨a, b, c, d, e⟩ => ⟨a, b, c, fun z => absurd z e3, e⟩, fun ⟨a, b, c, d, e⟩ => ⟨a, b, c, fun z => absurd z e3, e⟩⟩
  · unfold wy_nr wy_g
    rw [if_neg e3, if_neg e3, e2, f2]
theorem y_step (g_types g_methods g_place g_result g_linked g_active g_ticks g_code : Int32) (b_above b_ownField b_mType b_mName b_mLength b_bytes b_starts : Nat → Int32) (b_seen b_done : Nat → Int64) (b_heights b_sure b_objType b_objField b_marked b_global b_fMethod b_fPc b_fHigh b_fLocal b_fEntry : Nat → Int32) {post : SY → Prop} {m L nm tc st h : Nat} {lo : Nat → Int32} {D : Nat → Nat} {S : Nat → Prop} {su0 : Nat → Int32} (F : fo_OK tc L D S) (hm : m < 8) (eL : b_mLength m = nI L) (hn : nm < 16) (eN : b_mName m = nI nm) (hD : ∀ p, p < 33 → b_bytes (m * 32 + p) = nI (D p) ∧ D p < 256) (h5 : h ≤ 5) (I : YI m L nm D st b_heights b_seen b_done b_sure) (hsu : ∀ i, (i < m * 32 ∨ m * 32 + 32 ≤ i) → b_sure i = su0 i)
    (hst : st < 36864) (eH : b_heights (wy_p st) = nI h) (w : Way D L nm st h) (hl : ∀ s, s < 4 → lo s = nI (wy_c st s)) (hini : sb b_seen (wy_i nm) ∧ b_heights 0 = nI 0)
    (J : ∀ (bad hi re : Int32) (lo H' : Nat → Int32) (se : Nat → Int64) (su : Nat → Int32), GI m L nm D S su0 bad 99999 H' se b_done su → (∀ st, sb b_seen st → sb se st) → post (g_types, g_methods, g_place, g_result, g_linked, bad, hi, re, g_active, g_ticks, g_code, b_above, b_ownField, b_mType, b_mName, b_mLength, b_bytes, b_starts, se, b_done, H', lo, su, b_objType, b_objField, b_marked, b_global, b_fMethod, b_fPc, b_fHigh, b_fLocal, b_fEntry)) :
    wpY_step post (g_types, g_methods, g_place, g_result, g_linked, 0, nI h, nI (wy_r st), g_active, g_ticks, g_code, b_above, b_ownField, b_mType, b_mName, b_mLength, b_bytes, b_starts, b_seen, b_done, b_heights, lo, b_sure, b_objType, b_objField, b_marked, b_global, b_fMethod, b_fPc, b_fHigh, b_fLocal, b_fEntry) (nI m) (nI (wy_p st)) := by
  have hL := F.2.1
  obtain ⟨v1, v2, v3, v4⟩ := way_v F w
  obtain ⟨f1, f2, f3, f4, f5⟩ := F.2.2.2 _ v1 v2
  have hb4 := fo_b4 F v1 v2
  obtain ⟨eD, hD2⟩ := hD (wy_p st) (by omega)
  obtain ⟨eD1, hD3⟩ := hD (wy_p st + 1) (by omega)
  generalize hp : wy_p st = p at *
  rw [show m * 32 + (p + 1) = m * 32 + p + 1 by omega] at eD1
  have BM := YI_BM F I
  -- the operand as it is read
  have main : ∀ b, b < 256 → (is_sg (D p) = false → b = D (p + 1)) → wY_step_35 post (nI m) (nI p) (nI (D p)) (nI b) g_types g_methods g_place g_result g_linked 0 (nI h) (nI (wy_r st)) g_active g_ticks g_code b_above b_ownField b_mType b_mName b_mLength b_bytes b_starts b_seen b_done b_heights lo b_sure b_objType b_objField b_marked b_global b_fMethod b_fPc b_fHigh b_fLocal b_fEntry := by
    intro b hb hdbl
    have ew : (wy_ok (D p) b nm st h ↔ wy_ok (D p) (D (p + 1)) nm st h) ∧ wy_nr (D p) b st h = wy_nr (D p) (D (p + 1)) st h ∧ ∀ s, wy_nl (D p) b st h s = wy_nl (D p) (D (p + 1)) st h s := by
      cases z : is_sg (D p)
      · rw [hdbl z]; exact ⟨Iff.rfl, rfl, fun _ => rfl⟩
      · exact sg_w f1 z
    have d12 : D p = 1 ∨ D p = 2 → b = D (p + 1) := fun z => hdbl (by rcases z with z | z <;> rw [z] <;> rfl)
    have d1011 : D p = 10 ∨ D p = 11 → b = D (p + 1) := fun z => hdbl (by rcases z with z | z <;> rw [z] <;> rfl)
    refine s35 g_types g_methods g_place g_result g_linked g_active g_ticks g_code b_above b_ownField b_mType b_mName b_mLength b_bytes b_starts b_seen b_done b_heights lo b_sure b_objType b_objField b_marked b_global b_fMethod b_fPc b_fHigh b_fLocal b_fEntry (st := st) f1 hb (fun z => by rw [d12 z]; rcases z with z | z; exact hb4.1 z; exact hb4.2 z) hm eN hn h5 v4 hl (fun hok hi re lo' e1 e2 e3 => ?_) (fun nok hi re lo' => J _ _ _ _ _ _ _ ⟨Or.inr ⟨rfl, ⟨st, h, w, Or.inl (by rw [hp]; exact fun z => nok (ew.1.mpr z))⟩, BM⟩, hsu⟩ (fun _ z => z))
    have hok' := ew.1.mp hok
    obtain ⟨n1, n2⟩ := wy_nrB hb4.1 hok' h5
    subst e1 e2
    -- each successor
    have bad : ∀ p', is_su (D p) (D (p + 1)) p p' → L ≤ p' → WBad D L nm := fun p' hs hLp => ⟨st, h, w, Or.inr (Or.inl ⟨p', by rw [hp]; exact hs, hLp⟩)⟩
    have nx : ∀ p', is_su (D p) (D (p + 1)) p p' → p' < L → Way D L nm (wy_nx (D p) (D (p + 1)) st h p') (wy_h (D p) h) := fun p' hs hp' => by
      have := way_s (p' := p') w (by rw [hp]; exact hok') (by rw [hp]; exact hs) hp'
      rw [hp] at this
      exact this
    have nd : ∀ p', wy_p (wy_nx (D p) (D (p + 1)) st h p') = p' ∧ wy_r (wy_nx (D p) (D (p + 1)) st h p') = wy_nr (D p) b st h ∧ ∀ s, s < 4 → lo' s = nI (wy_c (wy_nx (D p) (D (p + 1)) st h p') s) := fun p' => by
      obtain ⟨c1, c2, c3⟩ := wy_nxD (p' := p') hb4.1 hok' h5
      exact ⟨c1, by rw [c2, ew.2.1], fun s hs => by rw [e3 s hs, ew.2.2 s, c3 s hs]⟩
    -- closing
    have close : ∀ (H' : Nat → Int32) (se : Nat → Int64) (su : Nat → Int32), YI m L nm D st H' se b_done su → H' p = nI h → (∀ p', is_su (D p) (D (p + 1)) p p' → p' < L ∧ H' p' = nI (wy_h (D p) h) ∧ sb se (wy_nx (D p) (D (p + 1)) st h p')) → YI m L nm D 99999 H' se b_done su := by
      intro H' se su I' eH' hc
      obtain ⟨i1, i2, i3, i4, i5, i6⟩ := I'
      refine ⟨i1, i2, i3, i4, i5, fun q hq1 hq2 _ hh hh5 eh => ?_⟩
      by_cases e : q = st
      · subst e
        rw [hp, eH'] at eh
        cases gp_inj (by omega) (by omega) eh
        unfold yCl
        rw [hp]
        exact ⟨hok', hc⟩
      · exact i6 q hq1 hq2 e hh hh5 eh
    have p32 : p < 32 := by omega
    have hz : is_sz (D p) ≤ 2 := by unfold is_sz; split <;> omega
    unfold wY_step_333 wY_step_345
    have f352 : ∀ (g : Int32) (H' : Nat → Int32) (se : Nat → Int64) (su : Nat → Int32), YI m L nm D st H' se b_done su → (sb se (wy_i nm) ∧ H' 0 = nI 0) → (∀ i, (i < m * 32 ∨ m * 32 + 32 ≤ i) → su i = su0 i) → H' p = nI h → (∀ st, sb b_seen st → sb se st) → (D p = 10 ∨ D p = 11 → D (p + 1) < L ∧ H' (D (p + 1)) = nI (wy_h (D p) h) ∧ sb se (wy_nx (D p) (D (p + 1)) st h (D (p + 1)))) → wY_step_352 post (nI m) (nI p) (nI (D p)) g_types g_methods g_place g_result g_linked 0 (nI (wy_h (D p) h)) (nI (wy_nr (D p) b st h)) g_active g_ticks g_code b_above b_ownField b_mType b_mName b_mLength b_bytes b_starts se b_done H' lo' su b_objType b_objField b_marked b_global b_fMethod b_fPc b_fHigh b_fLocal b_fEntry := by
      intro g H' se su I' hi' hsu' eH' hse hj
      unfold wY_step_352
      by_cases e10 : D p = 10
      · refine br_t (by rw [e10]; rfl) (J _ _ _ _ _ _ _ ⟨Or.inl ⟨rfl, close H' se su I' eH' (fun p' hs => ?_), hi'.1, hi'.2⟩, hsu'⟩ hse)
        rcases hs with ⟨-, rfl⟩ | ⟨z, -⟩
        · exact hj (Or.inl e10)
        · exact absurd e10 z
      · refine br_f (by rw [gm_eqL (by omega) (by omega)]; exact e10) ?_
        by_cases e18 : D p = 18
        · refine br_t (by rw [e18]; rfl) (J _ _ _ _ _ _ _ ⟨Or.inl ⟨rfl, close H' se su I' eH' (fun p' hs => ?_), hi'.1, hi'.2⟩, hsu'⟩ hse)
          rcases hs with ⟨z, -⟩ | ⟨-, z, -⟩
          · omega
          · exact absurd e18 z
        · have su2 : is_su (D p) (D (p + 1)) p (p + is_sz (D p)) := Or.inr ⟨e10, e18, rfl⟩
          have last : wY_step_382 post (nI (p + is_sz (D p))) (nI m) g_types g_methods g_place g_result g_linked 0 (nI (wy_h (D p) h)) (nI (wy_nr (D p) b st h)) g_active g_ticks g_code b_above b_ownField b_mType b_mName b_mLength b_bytes b_starts se b_done H' lo' su b_objType b_objField b_marked b_global b_fMethod b_fPc b_fHigh b_fLocal b_fEntry := by
            obtain ⟨c1, c2, c3⟩ := nd (p + is_sz (D p))
            unfold wY_step_382
            rw [← c2]
            refine rc1 g_types g_methods g_place g_result g_linked g_active g_ticks g_code b_above b_ownField b_mType b_mName b_mLength b_bytes b_starts se b_done H' lo' su b_objType b_objField b_marked b_global b_fMethod b_fPc b_fHigh b_fLocal b_fEntry F hm eL (by omega) n2 I' hsu' c3 c1 (bad _ su2) (nx _ su2) (fun wb => J _ _ _ _ _ _ _ ⟨Or.inr ⟨rfl, wb, YI_BM F I'⟩, hsu'⟩ hse) (fun hp' H2 se2 su2' I2 hs2 eh2 hm2 hb2 hse2 => J _ _ _ _ _ _ _ ⟨Or.inl ⟨rfl, close H2 se2 su2' I2 (hm2 p p32 h h5 eH') (fun q hq => ?_), hse2 _ hi'.1, hm2 0 (by omega) 0 (by omega) hi'.2⟩, hs2⟩ (fun st z => hse2 st (hse st z)))
            rcases hq with ⟨z, rfl⟩ | ⟨-, -, rfl⟩
            · obtain ⟨j1, j2, j3⟩ := hj z
              exact ⟨j1, hm2 _ (by omega) _ n2 j2, hse2 _ j3⟩
            · exact ⟨hp', eh2, hb2⟩
          refine br_f (by rw [gm_eqL (by omega) (by omega)]; exact e18) (ev_single (by omega) ?_)
          cases z : is_sg (D p)
          · have e2 : is_sz (D p) = 2 := by unfold is_sz; rw [z]; rfl
            rw [e2] at last
            refine br_t rfl ?_
            rw [show nI p + 2 = nI (p + 2) from nI_add p 2]
            exact last
          · have e2 : is_sz (D p) = 1 := by unfold is_sz; rw [z]; rfl
            rw [e2] at last
            refine br_f (by decide) ?_
            rw [nI_1 p]
            exact last
    have f345 : (D p = 10 ∨ D p = 11) → wpY_reach (fun u => match u with | (g_types50, g_methods50, g_place50, g_result50, g_linked50, g_bad50, g_high50, g_refs50, g_active50, g_ticks50, g_code50, b_above50, b_ownField50, b_mType50, b_mName50, b_mLength50, b_bytes50, b_starts50, b_seen50, b_done50, b_heights50, b_local50, b_sure50, b_objType50, b_objField50, b_marked50, b_global50, b_fMethod50, b_fPc50, b_fHigh50, b_fLocal50, b_fEntry50) => (wY_step_352 post (nI m) (nI p) (nI (D p)) g_types50 g_methods50 g_place50 g_result50 g_linked50 g_bad50 g_high50 g_refs50 g_active50 g_ticks50 g_code50 b_above50 b_ownField50 b_mType50 b_mName50 b_mLength50 b_bytes50 b_starts50 b_seen50 b_done50 b_heights50 b_local50 b_sure50 b_objType50 b_objField50 b_marked50 b_global50 b_fMethod50 b_fPc50 b_fHigh50 b_fLocal50 b_fEntry50)) (g_types, g_methods, g_place, g_result, g_linked, 0, nI (wy_h (D p) h), nI (wy_nr (D p) b st h), g_active, g_ticks, g_code, b_above, b_ownField, b_mType, b_mName, b_mLength, b_bytes, b_starts, b_seen, b_done, b_heights, lo', b_sure, b_objType, b_objField, b_marked, b_global, b_fMethod, b_fPc, b_fHigh, b_fLocal, b_fEntry) (nI m) (nI b) := by
      intro hj
      have su1 : is_su (D p) (D (p + 1)) p (D (p + 1)) := Or.inl ⟨hj, rfl⟩
      obtain ⟨c1, c2, c3⟩ := nd (D (p + 1))
      rw [d1011 hj] at c2 ⊢
      rw [← c2]
      refine rc1 g_types g_methods g_place g_result g_linked g_active g_ticks g_code b_above b_ownField b_mType b_mName b_mLength b_bytes b_starts b_seen b_done b_heights lo' b_sure b_objType b_objField b_marked b_global b_fMethod b_fPc b_fHigh b_fLocal b_fEntry F hm eL (by omega) n2 I hsu c3 c1 (bad _ su1) (nx _ su1) (fun wb => ?_) (fun hp' H2 se2 su2' I2 hs2 eh2 hm2 hb2 hse2 => ?_)
      · have := s333_bad g_types g_methods g_place g_result g_linked (nI (wy_h (D p) h)) (nI (wy_r (wy_nx (D p) (D (p + 1)) st h (D (p + 1))))) g_active g_ticks g_code b_above b_ownField b_mType b_mName b_mLength b_bytes b_starts b_seen b_done b_heights lo' b_sure b_objType b_objField b_marked b_global b_fMethod b_fPc b_fHigh b_fLocal b_fEntry (post := post) (x1 := nI m) (x2 := nI p) (x4 := nI b) (o := D p) (by omega) (J _ _ _ _ _ _ _ ⟨Or.inr ⟨rfl, wb, BM⟩, hsu⟩ (fun _ z => z))
        have h352 : wY_step_352 post (nI m) (nI p) (nI (D p)) g_types g_methods g_place g_result g_linked 1 (nI (wy_h (D p) h)) (nI (wy_r (wy_nx (D p) (D (p + 1)) st h (D (p + 1))))) g_active g_ticks g_code b_above b_ownField b_mType b_mName b_mLength b_bytes b_starts b_seen b_done b_heights lo' b_sure b_objType b_objField b_marked b_global b_fMethod b_fPc b_fHigh b_fLocal b_fEntry := by
          have hJ := J 1 (nI (wy_h (D p) h)) (nI (wy_r (wy_nx (D p) (D (p + 1)) st h (D (p + 1))))) lo' b_heights b_seen b_sure ⟨Or.inr ⟨rfl, wb, BM⟩, hsu⟩ (fun _ z => z)
          unfold wY_step_352 wY_step_382
          refine ⟨fun _ => hJ, fun _ => ⟨fun _ => hJ, fun _ => ev_single (by omega) ?_⟩⟩
          exact ⟨fun _ => reach_bad g_types g_methods g_place g_result g_linked (nI (wy_h (D p) h)) (nI (wy_r (wy_nx (D p) (D (p + 1)) st h (D (p + 1))))) g_active g_ticks g_code b_above b_ownField b_mType b_mName b_mLength b_bytes b_starts b_seen b_done b_heights lo' b_sure b_objType b_objField b_marked b_global b_fMethod b_fPc b_fHigh b_fLocal b_fEntry _ _ hJ, fun _ => reach_bad g_types g_methods g_place g_result g_linked (nI (wy_h (D p) h)) (nI (wy_r (wy_nx (D p) (D (p + 1)) st h (D (p + 1))))) g_active g_ticks g_code b_above b_ownField b_mType b_mName b_mLength b_bytes b_starts b_seen b_done b_heights lo' b_sure b_objType b_objField b_marked b_global b_fMethod b_fPc b_fHigh b_fLocal b_fEntry _ _ hJ⟩
        exact h352
      · have := f352 0 H2 se2 su2' I2 ⟨hse2 _ hini.1, hm2 0 (by omega) 0 (by omega) hini.2⟩ hs2 (hm2 p p32 h h5 eH) hse2 (fun _ => ⟨hp', eh2, hb2⟩)
        rw [d1011 hj, ← c2] at this
        exact this
    by_cases e10 : D p = 10
    · exact br_t (by rw [e10]; rfl) (f345 (Or.inl e10))
    · refine br_f (by rw [gm_eqL (by omega) (by omega)]; exact e10) ?_
      by_cases e11 : D p = 11
      · exact br_t (by rw [e11]; rfl) (f345 (Or.inr e11))
      · exact br_f (by rw [gm_eqL (by omega) (by omega)]; exact e11) (f352 0 b_heights b_seen b_sure I hini hsu eH (fun _ z => z) (fun z => by omega))
  unfold wpY_step
  simp (disch := omega) only [nI_clamp, gm_clL, gm_in, gm_inL, gm_ml, gm_al, gm_la, gm_sl, nI_add, pk_mul, gm_eqL, gm_leL, gm_ltL, gm_Lle, gm_Llt, gm_eq, gm_le, gm_lt, gm_m1, forall_eq, true_and, Nat.not_lt_zero, Nat.add_sub_cancel, gm_z2, gm_z3, gm_z9, gm_z16, gm_z18, gm_z32, gm_z36, gm_z64, gm_z1152, not_true_eq_false, not_false_eq_true, false_implies, true_implies, and_true, implies_true, eD]
  refine ⟨fun z => main 0 (by omega) (fun z2 => ?_), fun z => ?_⟩
  · have e2 : is_sz (D p) = 2 := by unfold is_sz; rw [z2]; rfl
    omega
  · rw [eD1]
    exact ⟨vp_in_nI (by omega) (by omega), main (D (p + 1)) hD3 (fun _ => rfl)⟩
