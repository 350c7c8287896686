/-! ===== the class's check: its invariant ===== -/
def kk (m : Nat) (K : Nat → Int32) (p s : Nat) : Nat := gm_n (K ((m * 32 + p) * 9 + s))
def xc (m L nm : Nat) (D : Nat → Nat) (H K : Nat → Int32) (p h : Nat) : Prop := xk_ok (D p) (D (p + 1)) nm (kk m K p) h ∧ ∀ p', is_su (D p) (D (p + 1)) p p' → p' < L ∧ H (m * 32 + p') = nI (wy_h (D p) h) ∧ ∀ s, s < 4 + wy_h (D p) h → kd_sub (xk_t (D p) (D (p + 1)) (kk m K p) h s) (kk m K p' s)
/-- each kind in f at place p has a way behind it -/
def xw (D : Nat → Nat) (L nm p h : Nat) (f : Nat → Nat) : Prop := (∃ st, Way D L nm st h ∧ wy_p st = p) ∧ ∀ s, s < 4 + h → ∀ c, c < 3 → kd_in c (f s) → ∃ st, Way D L nm st h ∧ wy_p st = p ∧ wy_c st s = c
def XI (m L nm : Nat) (D : Nat → Nat) (S : Nat → Prop) (e : Nat) (H K W : Nat → Int32) : Prop :=
  (∀ i, ∃ a, a < 8 ∧ K i = nI a) ∧ (∀ p, p < 32 → (H (m * 32 + p) = -1 ∧ W (m * 32 + p) = 0) ∨ ∃ h, h ≤ 5 ∧ H (m * 32 + p) = nI h) ∧
  (∀ p, p < L → ∀ h, h ≤ 5 → H (m * 32 + p) = nI h → S p ∧ ∀ s, s < 4 + h → 0 < kk m K p s) ∧
  (¬ WBad D L nm → ∀ p, p < L → ∀ h, h ≤ 5 → H (m * 32 + p) = nI h → xw D L nm p h (kk m K p)) ∧
  (∀ p, p < L → ∀ h, h ≤ 5 → H (m * 32 + p) = nI h → W (m * 32 + p) = 0 → p ≠ e → xc m L nm D H K p h)
/-- what an arrival at p' with height h' and kinds f does -/
def AR (m p' h' : Nat) (f : Nat → Nat) (H K W H' K' W' : Nat → Int32) : Prop :=
  ∃ kn : Nat → Nat, ((H (m * 32 + p') = -1 ∧ ∀ s, kn s = 0) ∨ (H (m * 32 + p') = nI h' ∧ ∀ s, kn s = kk m K p' s)) ∧ H' = upd H (m * 32 + p') (nI h') ∧ (∀ i, (∀ s, s < 4 + h' → i ≠ (m * 32 + p') * 9 + s) → K' i = K i) ∧ (∀ s, s < 4 + h' → K' ((m * 32 + p') * 9 + s) = nI (kn s ||| f s)) ∧
  (∀ i, i ≠ m * 32 + p' → W' i = W i) ∧ ((W' (m * 32 + p') = W (m * 32 + p') ∧ ∀ s, s < 4 + h' → kn s ||| f s = kn s) ∨ (W' (m * 32 + p') = 1 ∧ ∃ s, s < 4 + h' ∧ kn s ||| f s ≠ kn s))
/-- bit j is there -/
def PB (m : Nat) (H K : Nat → Int32) (j : Nat) : Prop := ∃ h, h ≤ 5 ∧ H (m * 32 + j / 27) = nI h ∧ j / 3 % 9 < 4 + h ∧ kd_in (j % 3) (kk m K (j / 27) (j / 3 % 9))
/-- kinds and heights grow alone -/
def XMon (m : Nat) (H K H' K' : Nat → Int32) : Prop := ∀ q, q < 32 → ∀ h, h ≤ 5 → H (m * 32 + q) = nI h → H' (m * 32 + q) = nI h ∧ ∀ s, s < 4 + h → kd_sub (kk m K q s) (kk m K' q s)
def XRow (m : Nat) (H K W K' W' : Nat → Int32) : Prop := ∀ q, q < 32 → W' (m * 32 + q) = 0 → W (m * 32 + q) = 0 ∧ ∀ h, h ≤ 5 → H (m * 32 + q) = nI h → ∀ s, s < 4 + h → kk m K' q s = kk m K q s
def XGrow (m : Nat) (H K W H' K' W' : Nat → Int32) : Prop := (∃ j, j < 864 ∧ PB m H' K' j ∧ ¬ PB m H K j) ∨ (∀ q, q < 32 → W' (m * 32 + q) = W (m * 32 + q))
def XFr (m : Nat) (H K H' K' : Nat → Int32) : Prop := (∀ i, (i < m * 32 ∨ m * 32 + 32 ≤ i) → H' i = H i) ∧ (∀ i, (i < m * 288 ∨ m * 288 + 288 ≤ i) → K' i = K i)
theorem XFr_t {m : Nat} {H K H1 K1 H2 K2 : Nat → Int32} (a : XFr m H K H1 K1) (b : XFr m H1 K1 H2 K2) : XFr m H K H2 K2 := ⟨fun i h => (b.1 i h).trans (a.1 i h), fun i h => (b.2 i h).trans (a.2 i h)⟩
theorem XMon_t {m : Nat} {H K H1 K1 H2 K2 : Nat → Int32} (a : XMon m H K H1 K1) (b : XMon m H1 K1 H2 K2) : XMon m H K H2 K2 := fun q hq h h5 e => by
  obtain ⟨a1, a2⟩ := a q hq h h5 e
  obtain ⟨b1, b2⟩ := b q hq h h5 a1
  exact ⟨b1, fun s hs c hc z => b2 s hs c hc (a2 s hs c hc z)⟩
theorem PB_mon {m : Nat} {H K H1 K1 : Nat → Int32} (a : XMon m H K H1 K1) {j : Nat} (hj : j < 864) (p : PB m H K j) : PB m H1 K1 j := by
  obtain ⟨h, h5, e, hs, hc⟩ := p
  obtain ⟨a1, a2⟩ := a (j / 27) (by omega) h h5 e
  exact ⟨h, h5, a1, hs, a2 _ hs _ (by omega) hc⟩
theorem kk_nI {m p s a : Nat} {K : Nat → Int32} (e : K ((m * 32 + p) * 9 + s) = nI a) (h : a < 8) : kk m K p s = a := by
  unfold kk
  rw [e, gp_nI (by omega)]
theorem kk_8 {m L nm e : Nat} {D : Nat → Nat} {S : Nat → Prop} {H K W : Nat → Int32} (I : XI m L nm D S e H K W) (p s : Nat) : kk m K p s < 8 ∧ K ((m * 32 + p) * 9 + s) = nI (kk m K p s) := by
  obtain ⟨a, ha, e⟩ := I.1 ((m * 32 + p) * 9 + s)
  rw [kk_nI e ha]
  exact ⟨ha, e⟩
theorem gp_inj {a b : Nat} (ha : a < 2 ^ 31) (hb : b < 2 ^ 31) (h : nI a = nI b) : a = b := (nI_eq ha hb).mp h
theorem gp_m1n {a : Nat} (ha : a < 2 ^ 31) (h : nI a = -1) : False := of_eq_false (gm_m1 ha) h
theorem ar_XI {m L nm e tc p' h' : Nat} {D : Nat → Nat} {S : Nat → Prop} {f : Nat → Nat} {H K W H' K' W' : Nat → Int32} (F : fo_OK tc L D S) (I : XI m L nm D S e H K W) (A : AR m p' h' f H K W H' K' W') (hp' : p' < L) (h5 : h' ≤ 5) (hS : S p') (hf : ∀ s, s < 4 + h' → 0 < f s ∧ f s < 8)
    (hw : ¬ WBad D L nm → xw D L nm p' h' f) : XI m L nm D S e H' K' W' ∧ XMon m H K H' K' ∧ (H' (m * 32 + p') = nI h' ∧ ∀ s, s < 4 + h' → kd_sub (f s) (kk m K' p' s)) ∧ XRow m H K W K' W' ∧ XGrow m H K W H' K' W' ∧ XFr m H K H' K' := by
  have hL := F.2.1
  have k8 := kk_8 I
  obtain ⟨i1, i2, i3, i4, i5⟩ := I
  obtain ⟨kn, a1, rfl, a3, a4, a5, a6⟩ := A
  have kn8 : ∀ s, kn s < 8 := by
    intro s
    rcases a1 with ⟨-, z⟩ | ⟨-, z⟩
    · rw [z]; omega
    · rw [z]; exact (k8 p' s).1
  have Kp : ∀ s, s < 4 + h' → kk m K' p' s = kn s ||| f s := fun s hs => kk_nI (a4 s hs) (kd_orL _ (kn8 s) _ (hf s hs).2)
  have Kq : ∀ q s, q ≠ p' → s < 9 → K' ((m * 32 + q) * 9 + s) = K ((m * 32 + q) * 9 + s) := fun q s hq hs => a3 _ (fun s' hs' => by omega)
  have Kqk : ∀ q s, q ≠ p' → s < 9 → kk m K' q s = kk m K q s := fun q s hq hs => by unfold kk; rw [Kq q s hq hs]
  have Hq : ∀ q, q ≠ p' → upd H (m * 32 + p') (nI h') (m * 32 + q) = H (m * 32 + q) := fun q hq => pk_un (by omega)
  have Hp : upd H (m * 32 + p') (nI h') (m * 32 + p') = nI h' := pk_us
  have mon : XMon m H K (upd H (m * 32 + p') (nI h')) K' := by
    intro q hq h hh eq
    by_cases e : q = p'
    · subst e
      rcases a1 with ⟨z, -⟩ | ⟨z, z2⟩
      · rw [eq] at z; exact absurd z (fun z => gp_m1n (by omega) z)
      · rw [eq] at z
        cases gp_inj (by omega) (by omega) z
        refine ⟨Hp, fun s hs c hc hk => ?_⟩
        rw [Kp s hs, kd_or _ (kn8 s) _ (hf s hs).2 c hc, z2]
        exact Or.inl hk
    · rw [Hq q e]
      exact ⟨eq, fun s hs c hc hk => by rw [Kqk q s e (by omega)]; exact hk⟩
  have row : XRow m H K W K' W' := by
    intro q hq hw0
    by_cases e : q = p'
    · subst e
      rcases a6 with ⟨z1, z2⟩ | ⟨z1, -⟩
      · refine ⟨by rw [← z1]; exact hw0, fun h hh eq s hs => ?_⟩
        rcases a1 with ⟨z, -⟩ | ⟨z, z3⟩
        · rw [eq] at z; exact absurd z (fun z => gp_m1n (by omega) z)
        · rw [eq] at z
          cases gp_inj (by omega) (by omega) z
          rw [Kp s hs, z2 s hs, z3]
      · rw [z1] at hw0; exact absurd hw0 (by decide)
    · exact ⟨by rw [← a5 _ (by omega)]; exact hw0, fun h hh eq s hs => Kqk q s e (by omega)⟩
  refine ⟨⟨fun i => ?_, fun p hp => ?_, fun p hp h hh eq => ?_, fun nb p hp h hh eq => ?_, fun p hp h hh eq hw0 hne => ?_⟩, mon, ⟨Hp, fun s hs c hc hk => ?_⟩, row, ?_, ⟨fun i hi => pk_un (by omega), fun i hi => a3 i (fun s hs => by omega)⟩⟩
  · by_cases e : ∃ s, s < 4 + h' ∧ i = (m * 32 + p') * 9 + s
    · obtain ⟨s, hs, rfl⟩ := e
      exact ⟨_, kd_orL _ (kn8 s) _ (hf s hs).2, a4 s hs⟩
    · rw [a3 i (fun s hs z => e ⟨s, hs, z⟩)]; exact i1 i
  · by_cases e : p = p'
    · subst e; exact Or.inr ⟨h', h5, Hp⟩
    · rw [Hq p e, a5 _ (by omega)]; exact i2 p hp
  · by_cases e : p = p'
    · subst e
      rw [Hp] at eq
      cases gp_inj (by omega) (by omega) eq
      refine ⟨hS, fun s hs => ?_⟩
      rw [Kp s hs]
      have hfs := hf s hs
      obtain ⟨c, hc, hk⟩ := kd_pos _ hfs.2 hfs.1
      exact kd_posI _ (kd_orL _ (kn8 s) _ hfs.2) c hc ((kd_or _ (kn8 s) _ hfs.2 c hc).mpr (Or.inr hk))
    · rw [Hq p e] at eq
      obtain ⟨b1, b2⟩ := i3 p hp h hh eq
      exact ⟨b1, fun s hs => by rw [Kqk p s e (by omega)]; exact b2 s hs⟩
  · by_cases e : p = p'
    · subst e
      rw [Hp] at eq
      cases gp_inj (by omega) (by omega) eq
      obtain ⟨w1, w2⟩ := hw nb
      refine ⟨w1, fun s hs c hc hk => ?_⟩
      rw [Kp s hs, kd_or _ (kn8 s) _ (hf s hs).2 c hc] at hk
      rcases hk with hk | hk
      · rcases a1 with ⟨-, z⟩ | ⟨z, z2⟩
        · rw [z] at hk
          exact absurd hk (by unfold kd_in; simp)
        · rw [z2] at hk
          exact (i4 nb p hp h' h5 z).2 s hs c hc hk
      · exact w2 s hs c hc hk
    · rw [Hq p e] at eq
      obtain ⟨b1, b2⟩ := i4 nb p hp h hh eq
      exact ⟨b1, fun s hs c hc hk => b2 s hs c hc (by rw [Kqk p s e (by omega)] at hk; exact hk)⟩
  · obtain ⟨r1, r2⟩ := row p (by omega) hw0
    have eqo : H (m * 32 + p) = nI h := by
      by_cases e : p = p'
      · subst e
        rw [Hp] at eq
        cases gp_inj (by omega) (by omega) eq
        rcases a1 with ⟨z, z2⟩ | ⟨z, -⟩
        · exfalso
          rcases a6 with ⟨z3, z4⟩ | ⟨z3, -⟩
          · have := z4 0 (by omega)
            rw [z2 0, Nat.zero_or] at this
            have := (hf 0 (by omega)).1
            omega
          · rw [z3] at hw0; exact absurd hw0 (by decide)
        · exact z
      · rw [Hq p e] at eq; exact eq
    obtain ⟨c1, c2⟩ := i5 p hp h hh eqo r1 hne
    have hkk : ∀ s, s < 4 + h → kk m K' p s = kk m K p s := r2 h hh eqo
    have hb4 := fo_b4 F hp (i3 p hp h hh eqo).1
    -- the row is the same, so the transfer is the same
    have hok : xk_ok (D p) (D (p + 1)) nm (kk m K' p) h := by
      obtain ⟨x1, x2, x3, x4, x5⟩ := c1
      exact ⟨x1, fun z => by rw [hkk _ (by omega)]; exact x2 z, fun z => by rw [hkk _ (by omega)]; exact x3 z, fun z => by rw [hkk _ (by have := hb4.1 z; omega)]; exact x4 z, x5⟩
    have ht : ∀ s, s < 4 + wy_h (D p) h → xk_t (D p) (D (p + 1)) (kk m K' p) h s = xk_t (D p) (D (p + 1)) (kk m K p) h s := by
      intro s hs
      unfold xk_t
      by_cases h4 : s < 4
      · rw [if_pos h4, if_pos h4]
        by_cases e2 : D p = 2 ∧ s = D (p + 1)
        · rw [if_pos e2, if_pos e2]; exact hkk _ (by omega)
        · rw [if_neg e2, if_neg e2]; exact hkk _ (by omega)
      · rw [if_neg h4, if_neg h4]
        by_cases h2 : s < 4 + (h - is_tk (D p))
        · rw [if_pos h2, if_pos h2]; exact hkk _ (by omega)
        · rw [if_neg h2, if_neg h2]
          by_cases e2 : D p = 1
          · rw [if_pos e2, if_pos e2]; exact hkk _ (by have := hb4.1 e2; omega)
          · rw [if_neg e2, if_neg e2]
    refine ⟨hok, fun q hq => ?_⟩
    obtain ⟨d1, d2, d3⟩ := c2 q hq
    have h5' : wy_h (D p) h ≤ 5 := by
      unfold wy_h
      obtain ⟨x1, x2, x3, x4, x5⟩ := c1
      cases hg : is_gv (D p)
      · simp; omega
      · have := x5 hg; simp; omega
    obtain ⟨m1, m2⟩ := mon q (by omega) _ h5' d2
    refine ⟨d1, m1, fun s hs => ?_⟩
    rw [ht s hs]
    exact fun c hc hk => m2 s hs c hc (d3 s hs c hc hk)
  · rw [Kp s hs, kd_or _ (kn8 s) _ (hf s hs).2 c hc]
    exact Or.inr hk
  · rcases a6 with ⟨z1, z2⟩ | ⟨z1, s, hs, z2⟩
    · right
      intro q hq
      by_cases e : q = p'
      · subst e; exact z1
      · exact a5 _ (by omega)
    · left
      obtain ⟨c, hc, k1, k2⟩ := kd_new _ (kn8 s) _ (hf s hs).2 z2
      have j1 : (p' * 27 + s * 3 + c) / 27 = p' := by omega
      have j2 : (p' * 27 + s * 3 + c) / 3 % 9 = s := by omega
      have j3 : (p' * 27 + s * 3 + c) % 3 = c := by omega
      refine ⟨p' * 27 + s * 3 + c, by omega, ⟨h', h5, by rw [j1]; exact Hp, by rw [j2]; exact hs, ?_⟩, ?_⟩
      · rw [j1, j2, j3, Kp s hs, kd_or _ (kn8 s) _ (hf s hs).2 c hc]
        exact Or.inr k1
      · rintro ⟨h, hh, eq, hs2, hk⟩
        rw [j1, j2, j3] at hk
        rw [j1] at eq
        rcases a1 with ⟨z, -⟩ | ⟨z, z3⟩
        · rw [eq] at z; exact gp_m1n (by omega) z
        · rw [z3] at k2; exact k2 hk
