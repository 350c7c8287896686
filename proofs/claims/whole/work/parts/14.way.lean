/-! ===== numbers of ways ===== -/
theorem wy_dec {p r a b c d : Nat} (hr : r < 32) (ha : a < 2) (hb : b < 2) (hc : c < 3) (hd : d < 3) : wy_p (wy_e p r a b c d) = p ∧ wy_r (wy_e p r a b c d) = r ∧ wy_c (wy_e p r a b c d) 0 = a ∧ wy_c (wy_e p r a b c d) 1 = b ∧ wy_c (wy_e p r a b c d) 2 = c ∧ wy_c (wy_e p r a b c d) 3 = d := by
  have e0 : wy_c (wy_e p r a b c d) 0 = wy_e p r a b c d / 18 % 2 := rfl
  have e1 : wy_c (wy_e p r a b c d) 1 = wy_e p r a b c d / 9 % 2 := rfl
  have e2 : wy_c (wy_e p r a b c d) 2 = wy_e p r a b c d / 3 % 3 := rfl
  have e3 : wy_c (wy_e p r a b c d) 3 = wy_e p r a b c d % 3 := rfl
  rw [e0, e1, e2, e3]
  unfold wy_p wy_r wy_e
  refine ⟨?_, ?_, ?_, ?_, ?_, ?_⟩ <;> omega
theorem wy_c4 (st j : Nat) : wy_c st (4 + j) = wy_r st / 2 ^ j % 2 := by
  unfold wy_c
  rw [if_neg (by omega), if_neg (by omega), if_neg (by omega), if_neg (by omega), Nat.add_sub_cancel_left]
theorem wy_cB (st s : Nat) : wy_c st s < 3 := by
  unfold wy_c
  split
  · omega
  split
  · omega
  split
  · omega
  split
  · omega
  · have := Nat.mod_lt (wy_r st / 2 ^ (s - 4)) (by decide : 2 > 0)
    omega
theorem wy_cB2 (st s : Nat) (h : s < 2 ∨ 4 ≤ s) : wy_c st s < 2 := by
  unfold wy_c
  split
  · omega
  split
  · omega
  split
  · omega
  split
  · omega
  · exact Nat.mod_lt _ (by decide)
theorem wy_rB (st : Nat) : wy_r st < 32 := Nat.mod_lt _ (by decide)
theorem wy_enc (st : Nat) : st = wy_e (wy_p st) (wy_r st) (wy_c st 0) (wy_c st 1) (wy_c st 2) (wy_c st 3) := by
  have e0 : wy_c st 0 = st / 18 % 2 := rfl
  have e1 : wy_c st 1 = st / 9 % 2 := rfl
  have e2 : wy_c st 2 = st / 3 % 3 := rfl
  have e3 : wy_c st 3 = st % 3 := rfl
  rw [e0, e1, e2, e3]
  unfold wy_p wy_r wy_e
  omega
theorem wy_bits : ∀ h1, h1 < 6 → ∀ r, r < 32 → ∀ g, g < 2 → ∀ j, j < h1 → (r % 2 ^ h1 + g * 2 ^ h1) / 2 ^ j % 2 = r / 2 ^ j % 2 := by decide +kernel
theorem wy_bit1 : ∀ h1, h1 < 6 → ∀ r, r < 32 → ∀ g, g < 2 → (r % 2 ^ h1 + g * 2 ^ h1) / 2 ^ h1 % 2 = g := by decide +kernel
theorem wy_bitL : ∀ h1, h1 < 6 → ∀ r, r < 32 → ∀ g, g < 2 → r % 2 ^ h1 + g * 2 ^ h1 < 2 ^ (h1 + 1) := by decide +kernel
theorem wy_bitM : ∀ h1, h1 < 6 → ∀ r, r < 32 → r % 2 ^ h1 < 2 ^ h1 := by decide +kernel
theorem wy_p5 : ∀ h, h < 6 → 2 ^ h ≤ 32 := by decide
/-! ===== tables ===== -/
theorem is_gk2 (b : Nat) : ∀ {o : Nat}, o < 21 → is_gv o = true → o ≠ 1 → is_gk o b = 2 ∨ is_gk o b = 4 := by
  intro o ho hg h1
  have hv : is_vk b = 2 ∨ is_vk b = 4 := by unfold is_vk; split <;> simp
  rcases (by omega : o = 0 ∨ o = 1 ∨ o = 2 ∨ o = 3 ∨ o = 4 ∨ o = 5 ∨ o = 6 ∨ o = 7 ∨ o = 8 ∨ o = 9 ∨ o = 10 ∨ o = 11 ∨ o = 12 ∨ o = 13 ∨ o = 14 ∨ o = 15 ∨ o = 16 ∨ o = 17 ∨ o = 18 ∨ o = 19 ∨ o = 20) with rfl | rfl | rfl | rfl | rfl | rfl | rfl | rfl | rfl | rfl | rfl | rfl | rfl | rfl | rfl | rfl | rfl | rfl | rfl | rfl | rfl
  · exact Or.inl rfl
  · exact absurd rfl h1
  · exact absurd hg (by decide)
  · exact absurd hg (by decide)
  · exact Or.inl rfl
  · exact Or.inl rfl
  · exact Or.inl rfl
  · exact Or.inl rfl
  · exact Or.inl rfl
  · exact Or.inl rfl
  · exact absurd hg (by decide)
  · exact absurd hg (by decide)
  · exact Or.inr rfl
  · exact Or.inr rfl
  · exact hv
  · exact absurd hg (by decide)
  · exact hv
  · exact Or.inl rfl
  · exact absurd hg (by decide)
  · exact Or.inr rfl
  · exact absurd hg (by decide)
theorem kd_2 : ∀ c, c < 3 → kd_in c 2 → c = 0 := by unfold kd_in; decide
theorem kd_4 : ∀ c, c < 3 → kd_in c 4 → c = 1 := by unfold kd_in; decide
theorem kd_i2 : kd_in 0 2 := by unfold kd_in; decide
theorem kd_i4 : kd_in 1 4 := by unfold kd_in; decide
theorem kd_or : ∀ a, a < 8 → ∀ b, b < 8 → ∀ c, c < 3 → (kd_in c (a ||| b) ↔ (kd_in c a ∨ kd_in c b)) := by unfold kd_in; decide +kernel
theorem kd_orL : ∀ a, a < 8 → ∀ b, b < 8 → a ||| b < 8 := by decide +kernel
theorem kd_pos : ∀ a, a < 8 → 0 < a → ∃ c, c < 3 ∧ kd_in c a := by unfold kd_in; decide +kernel
theorem kd_posI : ∀ a, a < 8 → ∀ c, c < 3 → kd_in c a → 0 < a := by unfold kd_in; decide +kernel
theorem kd_new : ∀ a, a < 8 → ∀ b, b < 8 → a ||| b ≠ a → ∃ c, c < 3 ∧ kd_in c b ∧ ¬ kd_in c a := by unfold kd_in; decide +kernel
theorem kd_is4 : ∀ a, a < 8 → 0 < a → (∀ c, c < 3 → kd_in c a → c = 1) → a = 4 := by unfold kd_in; decide +kernel
theorem kd_ext : ∀ a, a < 8 → ∀ b, b < 8 → (∀ c, c < 3 → (kd_in c a → kd_in c b)) → a ||| b = b := by unfold kd_in; decide +kernel
/-! ===== one step of a way ===== -/
theorem wy_gB {o b st : Nat} (hb : o = 1 → b < 4) (h1 : o = 1 → wy_c st b ≠ 2) : wy_g o b st < 2 := by
  unfold wy_g
  split
  · rename_i e
    have := wy_cB st b
    have := h1 e
    omega
  · split <;> omega
theorem wy_nlB {o b st h nm : Nat} (hok : wy_ok o b nm st h) : wy_nl o b st h 0 < 2 ∧ wy_nl o b st h 1 < 2 ∧ wy_nl o b st h 2 < 3 ∧ wy_nl o b st h 3 < 3 := by
  have ht : o = 2 → wy_c st (3 + h) < 2 := by
    intro e
    apply wy_cB2
    have := hok.1
    rw [e] at this
    have : is_tk 2 = 1 := rfl
    omega
  have a : ∀ s, s < 2 → wy_nl o b st h s < 2 := by
    intro s hs
    unfold wy_nl
    split
    · rename_i e; exact ht e.1
    · exact wy_cB2 st s (Or.inl hs)
  have a3 : ∀ s, wy_nl o b st h s < 3 := by
    intro s
    unfold wy_nl
    split
    · exact wy_cB _ _
    · exact wy_cB _ _
  exact ⟨a 0 (by omega), a 1 (by omega), a3 2, a3 3⟩
theorem wy_nrB {o b st h nm : Nat} (hb : o = 1 → b < 4) (hok : wy_ok o b nm st h) (h5 : h ≤ 5) : wy_nr o b st h < 2 ^ wy_h o h ∧ wy_h o h ≤ 5 := by
  obtain ⟨k1, k2, k3, k4, k5⟩ := hok
  unfold wy_nr wy_h
  cases hg : is_gv o
  · simp only [Bool.false_eq_true, if_false, Nat.add_zero]
    exact ⟨wy_bitM _ (by omega) _ (wy_rB st), by omega⟩
  · simp only [if_true]
    exact ⟨wy_bitL _ (by omega) _ (wy_rB st) _ (wy_gB hb k4), by have := k5 hg; omega⟩
theorem wy_nxD {o b st h nm p' : Nat} (hb : o = 1 → b < 4) (hok : wy_ok o b nm st h) (h5 : h ≤ 5) : wy_p (wy_nx o b st h p') = p' ∧ wy_r (wy_nx o b st h p') = wy_nr o b st h ∧ ∀ s, s < 4 → wy_c (wy_nx o b st h p') s = wy_nl o b st h s := by
  obtain ⟨a0, a1, a2, a3⟩ := wy_nlB hok
  obtain ⟨b1, b2⟩ := wy_nrB hb hok h5
  have b3 := wy_p5 (wy_h o h) (by omega)
  obtain ⟨c1, c2, c3, c4, c5, c6⟩ := wy_dec (p := p') (r := wy_nr o b st h) (by omega) a0 a1 a2 a3
  refine ⟨c1, c2, fun s hs => ?_⟩
  rcases (by omega : s = 0 ∨ s = 1 ∨ s = 2 ∨ s = 3) with rfl | rfl | rfl | rfl
  · exact c3
  · exact c4
  · exact c5
  · exact c6
theorem wy_nxC {o b st h nm p' s : Nat} (hb : o = 1 → b < 4) (hok : wy_ok o b nm st h) (h5 : h ≤ 5) (hs : s < 4 + wy_h o h) : wy_c (wy_nx o b st h p') s = if s < 4 then wy_nl o b st h s else if s < 4 + (h - is_tk o) then wy_c st s else wy_g o b st := by
  obtain ⟨c1, c2, c3⟩ := wy_nxD (p' := p') hb hok h5
  split
  · rename_i z; exact c3 s z
  · rename_i z
    obtain ⟨j, rfl⟩ : ∃ j, s = 4 + j := ⟨s - 4, by omega⟩
    rw [wy_c4, c2, wy_c4]
    unfold wy_nr
    unfold wy_h at hs
    obtain ⟨k1, k2, k3, k4, k5⟩ := hok
    cases hg : is_gv o
    · rw [hg] at hs
      simp only [Bool.false_eq_true, if_false, Nat.add_zero] at hs ⊢
      rw [if_pos (by omega)]
      have := wy_bits (h - is_tk o) (by omega) (wy_r st) (wy_rB st) 0 (by omega) j (by omega)
      rw [Nat.zero_mul, Nat.add_zero] at this
      exact this
    · rw [hg] at hs
      simp only [if_true] at hs ⊢
      split
      · exact wy_bits _ (by omega) _ (wy_rB st) _ (wy_gB hb k4) j (by omega)
      · have e : j = h - is_tk o := by omega
        rw [e]
        exact wy_bit1 _ (by omega) _ (wy_rB st) _ (wy_gB hb k4)
/-! ===== ways: induction, validity ===== -/
theorem way_i (D : Nat → Nat) (L nm : Nat) : Way D L nm (wy_i nm) 0 := fun _ h0 _ => h0
theorem way_s {D : Nat → Nat} {L nm st h p' : Nat} (w : Way D L nm st h) (hok : wy_ok (D (wy_p st)) (D (wy_p st + 1)) nm st h) (hs : is_su (D (wy_p st)) (D (wy_p st + 1)) (wy_p st) p') (hp : p' < L) : Way D L nm (wy_nx (D (wy_p st)) (D (wy_p st + 1)) st h p') (wy_h (D (wy_p st)) h) := fun P h0 h1 => h1 st h p' (w P h0 h1) hok hs hp
theorem wy_iD {nm : Nat} : wy_p (wy_i nm) = 0 ∧ wy_r (wy_i nm) = 0 ∧ wy_c (wy_i nm) 0 = 1 ∧ wy_c (wy_i nm) 1 = (if nm / 4 % 2 = 0 then 0 else 1) ∧ wy_c (wy_i nm) 2 = 2 ∧ wy_c (wy_i nm) 3 = 2 := wy_dec (by omega) (by omega) (by split <;> omega) (by omega) (by omega)
def WV (L : Nat) (S : Nat → Prop) (st h : Nat) : Prop := wy_p st < L ∧ S (wy_p st) ∧ h ≤ 5 ∧ wy_r st < 2 ^ h
theorem is_opd_1 {tc o b : Nat} (h : is_opd tc o b) : o = 1 → b < 4 := fun e => h.1 (Or.inl e)
theorem fo_b4 {tc L p : Nat} {D : Nat → Nat} {S : Nat → Prop} (F : fo_OK tc L D S) (hp : p < L) (hs : S p) : (D p = 1 → D (p + 1) < 4) ∧ (D p = 2 → D (p + 1) < 4) := by
  obtain ⟨-, -, -, h⟩ := F
  obtain ⟨a1, a2, a3, a4, a5⟩ := h p hp hs
  constructor
  · intro e
    rw [e] at a4
    exact (a4 rfl).1 (Or.inl rfl)
  · intro e
    rw [e] at a4
    exact (a4 rfl).1 (Or.inr rfl)
theorem fo_su {tc L p p' : Nat} {D : Nat → Nat} {S : Nat → Prop} (F : fo_OK tc L D S) (hp : p < L) (hs : S p) (h : is_su (D p) (D (p + 1)) p p') (hp' : p' < L) : S p' := by
  obtain ⟨-, -, -, hh⟩ := F
  obtain ⟨a1, a2, a3, a4, a5⟩ := hh p hp hs
  rcases h with ⟨h1, rfl⟩ | ⟨h1, h2, rfl⟩
  · exact (a5 h1).2
  · exact a3 hp'
theorem way_v {tc L nm st h : Nat} {D : Nat → Nat} {S : Nat → Prop} (F : fo_OK tc L D S) (w : Way D L nm st h) : WV L S st h := by
  refine w (WV L S) ?_ (fun st h p' v hok hs hp => ?_)
  · obtain ⟨i1, i2, -⟩ := wy_iD (nm := nm)
    refine ⟨by rw [i1]; exact F.1, by rw [i1]; exact F.2.2.1, by omega, by rw [i2]; decide⟩
  · obtain ⟨v1, v2, v3, v4⟩ := v
    have hb := (fo_b4 F v1 v2).1
    obtain ⟨c1, c2, -⟩ := wy_nxD (p' := p') hb hok v3
    obtain ⟨b1, b2⟩ := wy_nrB hb hok v3
    exact ⟨by rw [c1]; exact hp, by rw [c1]; exact fo_su F v1 v2 hs hp, b2, by rw [c2]; exact b1⟩
/-! ===== sets of kinds against ways ===== -/
theorem xk_A {o b nm st h p' : Nat} {k : Nat → Nat} (ho : o < 21) (hb : o = 1 → b < 4) (h5 : h ≤ 5) (hk : ∀ s, s < 4 + h → kd_in (wy_c st s) (k s)) (hx : xk_ok o b nm k h) : wy_ok o b nm st h ∧ ∀ s, s < 4 + wy_h o h → kd_in (wy_c (wy_nx o b st h p') s) (xk_t o b k h s) := by
  obtain ⟨x1, x2, x3, x4, x5⟩ := hx
  have hok : wy_ok o b nm st h := ⟨x1, fun z => x2 z _ (wy_cB _ _) (hk _ (by omega)), fun z => x3 z _ (wy_cB _ _) (hk _ (by omega)), fun z e => x4 z (by have := hk b (by have := hb z; omega); rw [e] at this; exact this), x5⟩
  refine ⟨hok, fun s hs => ?_⟩
  rw [wy_nxC hb hok h5 hs]
  unfold xk_t
  by_cases h4 : s < 4
  · rw [if_pos h4, if_pos h4]
    unfold wy_nl
    by_cases e : o = 2 ∧ s = b
    · rw [if_pos e, if_pos e]; exact hk _ (by omega)
    · rw [if_neg e, if_neg e]; exact hk _ (by omega)
  · rw [if_neg h4, if_neg h4]
    by_cases h2 : s < 4 + (h - is_tk o)
    · rw [if_pos h2, if_pos h2]; exact hk _ (by omega)
    · rw [if_neg h2, if_neg h2]
      unfold wy_g
      by_cases e : o = 1
      · rw [if_pos e, if_pos e]; exact hk _ (by have := hb e; omega)
      · rw [if_neg e, if_neg e]
        have hg : is_gv o = true := by
          unfold wy_h at hs
          cases hg : is_gv o
          · rw [hg] at hs; simp at hs; omega
          · rfl
        rcases is_gk2 b ho hg e with z | z
        · rw [z]; exact kd_i2
        · rw [z]; exact kd_i4
theorem xk_B {o b nm h : Nat} {k : Nat → Nat} (hb : o = 1 → b < 4) (hx : ¬ xk_ok o b nm k h) : (∃ s c, s < 4 + h ∧ c < 3 ∧ kd_in c (k s) ∧ ∀ st, wy_c st s = c → ¬ wy_ok o b nm st h) ∨ (∀ st, ¬ wy_ok o b nm st h) := by
  by_cases x1 : is_tk o ≤ h
  · by_cases x5 : is_gv o = true → h - is_tk o < 5
    · left
      by_cases x2 : 1 ≤ is_tk o → kd_sub (k (3 + h)) (is_n1 o b nm)
      · by_cases x3 : is_tk o = 2 → kd_sub (k (2 + h)) (is_n2 o)
        · by_cases x4 : o = 1 → ¬ kd_in 2 (k b)
          · exact absurd ⟨x1, x2, x3, x4, x5⟩ hx
          · have e : o = 1 := Classical.byContradiction fun z => x4 fun z2 => absurd z2 z
            have hk : kd_in 2 (k b) := Classical.byContradiction fun z => x4 fun _ => z
            exact ⟨b, 2, by have := hb e; omega, by omega, hk, fun st hc hok => hok.2.2.2.1 e hc⟩
        · have e : is_tk o = 2 := Classical.byContradiction fun z => x3 fun z2 => absurd z2 z
          have hk : ¬ kd_sub (k (2 + h)) (is_n2 o) := fun z => x3 fun _ => z
          have hk2 : ∃ c, c < 3 ∧ kd_in c (k (2 + h)) ∧ ¬ kd_in c (is_n2 o) := Classical.byContradiction fun z => hk fun c hc h1 => Classical.byContradiction fun h2 => z ⟨c, hc, h1, h2⟩
          obtain ⟨c, hc, h1, h2⟩ := hk2
          exact ⟨2 + h, c, by omega, hc, h1, fun st e2 hok => h2 (by have := hok.2.2.1 e; rw [e2] at this; exact this)⟩
      · have e : 1 ≤ is_tk o := Classical.byContradiction fun z => x2 fun z2 => absurd z2 z
        have hk : ¬ kd_sub (k (3 + h)) (is_n1 o b nm) := fun z => x2 fun _ => z
        have hk2 : ∃ c, c < 3 ∧ kd_in c (k (3 + h)) ∧ ¬ kd_in c (is_n1 o b nm) := Classical.byContradiction fun z => hk fun c hc h1 => Classical.byContradiction fun h2 => z ⟨c, hc, h1, h2⟩
        obtain ⟨c, hc, h1, h2⟩ := hk2
        exact ⟨3 + h, c, by omega, hc, h1, fun st e2 hok => h2 (by have := hok.2.1 e; rw [e2] at this; exact this)⟩
    · right
      intro st hok
      exact x5 hok.2.2.2.2
  · right
    intro st hok
    exact x1 hok.1
theorem xk_C {o b nm h p' s c : Nat} {k : Nat → Nat} (ho : o < 21) (hb : o = 1 → b < 4) (h5 : h ≤ 5) (hx : xk_ok o b nm k h) (hs : s < 4 + wy_h o h) (hc : c < 3) (hk : kd_in c (xk_t o b k h s)) :
    (∃ s0, s0 < 4 + h ∧ kd_in c (k s0) ∧ ∀ st, wy_ok o b nm st h → wy_c st s0 = c → wy_c (wy_nx o b st h p') s = c) ∨ (∀ st, wy_ok o b nm st h → wy_c (wy_nx o b st h p') s = c) := by
  have key : ∀ st, wy_ok o b nm st h → wy_c (wy_nx o b st h p') s = if s < 4 then wy_nl o b st h s else if s < 4 + (h - is_tk o) then wy_c st s else wy_g o b st := fun st hok => wy_nxC hb hok h5 hs
  unfold xk_t at hk
  by_cases h4 : s < 4
  · rw [if_pos h4] at hk
    left
    by_cases e : o = 2 ∧ s = b
    · rw [if_pos e] at hk
      refine ⟨3 + h, by omega, hk, fun st hok e2 => ?_⟩
      rw [key st hok, if_pos h4]; unfold wy_nl; rw [if_pos e]; exact e2
    · rw [if_neg e] at hk
      refine ⟨s, by omega, hk, fun st hok e2 => ?_⟩
      rw [key st hok, if_pos h4]; unfold wy_nl; rw [if_neg e]; exact e2
  · rw [if_neg h4] at hk
    by_cases h2 : s < 4 + (h - is_tk o)
    · rw [if_pos h2] at hk
      refine Or.inl ⟨s, by omega, hk, fun st hok e2 => ?_⟩
      rw [key st hok, if_neg h4, if_pos h2]; exact e2
    · rw [if_neg h2] at hk
      by_cases e : o = 1
      · rw [if_pos e] at hk
        refine Or.inl ⟨b, by have := hb e; omega, hk, fun st hok e2 => ?_⟩
        rw [key st hok, if_neg h4, if_neg h2]; unfold wy_g; rw [if_pos e]; exact e2
      · rw [if_neg e] at hk
        refine Or.inr (fun st hok => ?_)
        rw [key st hok, if_neg h4, if_neg h2]; unfold wy_g; rw [if_neg e]
        have hg : is_gv o = true := by
          unfold wy_h at hs
          cases hg : is_gv o
          · rw [hg] at hs; simp at hs; omega
          · rfl
        rcases is_gk2 b ho hg e with z | z
        · rw [z] at hk ⊢; rw [kd_2 c hc hk]; rfl
        · rw [z] at hk ⊢; rw [kd_4 c hc hk]; rfl
theorem xk_pos {o b nm h s : Nat} {k : Nat → Nat} (ho : o < 21) (hb : o = 1 → b < 4) (hx : xk_ok o b nm k h) (hk : ∀ s, s < 4 + h → 0 < k s ∧ k s < 8) (hs : s < 4 + wy_h o h) : 0 < xk_t o b k h s ∧ xk_t o b k h s < 8 := by
  unfold xk_t
  by_cases h4 : s < 4
  · rw [if_pos h4]
    split
    · exact hk _ (by omega)
    · exact hk _ (by omega)
  · rw [if_neg h4]
    by_cases h2 : s < 4 + (h - is_tk o)
    · rw [if_pos h2]; exact hk _ (by omega)
    · rw [if_neg h2]
      by_cases e : o = 1
      · rw [if_pos e]; exact hk _ (by have := hb e; omega)
      · rw [if_neg e]
        have hg : is_gv o = true := by
          unfold wy_h at hs
          cases hg : is_gv o
          · rw [hg] at hs; simp at hs; omega
          · rfl
        rcases is_gk2 b ho hg e with z | z
        · rw [z]; omega
        · rw [z]; omega
