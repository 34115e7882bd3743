/-! the start: both objects made, both worlds alike -/
set_option maxRecDepth 100000 in
theorem kegL_0 : kegL 0 = LyK := rfl
theorem modL_0 : modL 0 = LyM := rfl
theorem len_K : LyK.length = 235 := by decide +kernel
theorem len_M : LyM.length = 14 := by decide +kernel
theorem len_keg : (kegL 0).length = 235 := by rw [kegL_0]; exact len_K
theorem len_mod (k : Nat) : (modL k).length = 14 := rfl
theorem wls_mod {ad : Nat → Nat} {CA : Nat → ClassId} {M : Mem} : wls ad CA M (modL 235) 235 = wls (fun k => ad (235 + k)) CA (fun k => M (235 + k)) (modL 0) 0 := rfl
theorem Tw.of {G : va_G} {CA : Nat → ClassId} {ad : Nat → Nat} {s : State} {M : Mem} {H : Heap} {locs : List Loc} (hW : Wo G ad CA 6 (kegL 0 ++ modL 235) (AL s) s M H locs) : Tw G CA ad (fun k => ad (235 + k)) s M (fun k => M (235 + k)) H locs := by
  have hl : (kegL 0 ++ modL 235).length = 249 := by rw [List.length_append, len_keg, len_mod]
  have e := wls_app (ad := ad) (CA := CA) (M := M) (kegL 0) (modL 235) 0
  rw [len_keg, Nat.zero_add, wls_mod, kegL_0, modL_0] at e
  have hP := hW.P
  rw [kegL_0] at hP
  rw [e] at hP
  have l1 : (wls ad CA M LyK 0).length = 235 := by rw [wls_len, len_K]
  have hi := hW.inj
  have hd := hW.dom
  rw [hl] at hi hd
  refine ⟨⟨fun k q hk => hP k q ?_, hW.K, fun i j h1 h2 h3 => ?_, fun k hk => ?_, hW.S, hW.N⟩, ⟨fun k q hk => hP (235 + k) q ?_, hW.K, fun i j h1 h2 h3 => ?_, fun k hk => ?_, hW.S, hW.N⟩, fun i j h1 h2 h3 => ?_⟩
  · rw [List.getElem?_append_left (List.getElem?_eq_some_iff.mp hk).1]; exact hk
  · rw [len_K] at h1 h2
    exact hi i j (by omega) (by omega) h3
  · rw [len_K] at hk
    exact hd k (by omega)
  · rw [List.getElem?_append_right (by omega), l1, show 235 + k - 235 = k by omega]; exact hk
  · rw [len_M] at h1 h2
    have := hi (235 + i) (235 + j) (by omega) (by omega) h3
    omega
  · rw [len_M] at hk
    exact hd (235 + k) (by omega)
  · rw [len_K] at h1
    rw [len_M] at h2
    have := hi i (235 + j) (by omega) (by omega) h3
    omega
theorem InvS_zero : InvS (fun _ => 0) := by unfold InvS; decide
theorem clear_inv : InvF clearF ∧ clearF 46 = 0 := by
  have hz : ∀ s : Int, (s = 0 ∨ s = 1) → sdF clearF s = fun _ => 0 := by
    intro s hs
    funext j
    unfold sdF
    split
    · unfold clearF
      rw [if_neg (by omega), if_neg (by omega), if_neg (by omega), if_neg (by omega)]
    · rfl
  refine ⟨⟨by decide, by decide, by decide, by decide, by decide, fun i a b => ?_, fun i a b => ?_, fun i a b => ?_, ?_, ?_⟩, rfl⟩
  · rcases (show i = 0 ∨ i = 1 ∨ i = 2 ∨ i = 3 ∨ i = 4 ∨ i = 5 ∨ i = 6 ∨ i = 7 ∨ i = 8 by omega) with rfl | rfl | rfl | rfl | rfl | rfl | rfl | rfl | rfl <;> decide
  · rcases (show i = 0 ∨ i = 1 ∨ i = 2 ∨ i = 3 ∨ i = 4 ∨ i = 5 ∨ i = 6 ∨ i = 7 ∨ i = 8 by omega) with rfl | rfl | rfl | rfl | rfl | rfl | rfl | rfl | rfl <;> decide
  · rcases (show i = 0 ∨ i = 1 ∨ i = 2 ∨ i = 3 ∨ i = 4 ∨ i = 5 ∨ i = 6 ∨ i = 7 ∨ i = 8 by omega) with rfl | rfl | rfl | rfl | rfl | rfl | rfl | rfl | rfl <;> decide
  · rw [hz 0 (Or.inl rfl)]; exact InvS_zero
  · rw [hz 1 (Or.inr rfl)]; exact InvS_zero
theorem pg_clear {S : Mem} (s0 : S 0 = updI zr 1 5) (s1 : S 1 = zr) : pg S 0 = clearF := by
  funext i
  show pgV (S 0 1) (S 1 (0 + i)) i = clearF i
  rw [s0, s1, updI_eq]
  unfold pgV clearF
  by_cases h1 : i = 47
  · subst h1; rfl
  by_cases h2 : i = 27
  · subst h2; rfl
  by_cases h3 : i = 44
  · subst h3; rfl
  rw [if_neg h1, if_neg (by omega), if_neg h2, if_neg h3, if_neg h1]
  by_cases h4 : i < 0 ∨ 48 ≤ i
  · rw [if_pos h4, if_neg (by omega)]
  · rw [if_neg h4]
    by_cases h5 : i < 27
    · have h6 : 0 ≤ i ∧ i < 27 := ⟨by omega, h5⟩
      rw [if_pos h5]
      show _ = if 0 ≤ i ∧ i < 27 then (if i % 3 = 0 then (12 : Int) else if i % 3 = 1 then 3 else 0) else 0
      rw [if_pos h6]
      rfl
    · rw [if_neg h5, if_neg (by omega)]
theorem RR.start {M S : Mem} (m0 : M 0 = zr) (mf : fld M 1 = clearF) (m17 : M 17 = zr) (m18 : M 18 = zr) (m19 : M 19 = zr) (m207 : M 207 = zr)
    (h0 : M 227 0 = -1 ∧ M 227 1 = 0 ∧ M 228 = zr) (h1 : M 229 0 = -1 ∧ M 229 1 = 0 ∧ M 230 = zr) (h2 : M 231 0 = -1 ∧ M 231 1 = 0 ∧ M 232 = zr) (h3 : M 233 0 = -1 ∧ M 233 1 = 0 ∧ M 234 = zr)
    (s0 : S 0 = updI zr 1 5) (s1 : S 1 = zr) (s4 : S 4 = zr) (s9 : S 9 = zr) (s10 : S 10 = zr) (s12 : S 12 = zr) (s13 : S 13 = zr) (s5 : ∀ i, 0 ≤ i → i < 15 → S 5 i = cutI i) (s6 : ∀ i, 0 ≤ i → i < 64 → S 6 i = letT i) (s11 : ∀ i, 0 ≤ i → i < 4 → S 11 i = -4) : RR M S := by
  have z0 : ∀ j : Int, j ≠ 1 → S 0 j = 0 := fun j hj => by rw [s0, updI_ne hj]
  refine ⟨⟨by rw [mf, pg_clear s0 s1], by rw [mf]; exact clear_inv.1, by rw [mf, clear_inv.2]; decide⟩, ⟨Or.inl (by rw [s10]), Or.inl (by rw [s10]), by rw [m0, s10]; rfl, fun z => ?_, fun z => ?_⟩, ⟨⟨by rw [m207]; decide, fun k a b => ?_⟩, by rw [m207, z0 22 (by decide)], fun k a b => ?_⟩, ⟨by rw [m18, z0 9 (by decide)], by rw [z0 9 (by decide)]; decide, ?_⟩, fun k a b => ?_, ⟨by rw [m17, z0 10 (by decide)], by rw [m0, z0 27 (by decide)]⟩, ⟨s5, s6⟩⟩
  · rw [s10] at z; exact absurd z (by decide)
  · rw [s10] at z; exact absurd z (by decide)
  · rw [m207] at b; exfalso; have b : k < 0 := b; omega
  · rw [m207] at b; exfalso; have b : k < 0 := b; omega
  · funext j
    rw [s4]
    show band (M 19 j) 255 = 0
    rw [m19]
    show band 0 255 = 0
    decide
  · have e : M (227 + 2 * k.toNat) 0 = -1 ∧ M (227 + 2 * k.toNat) 1 = 0 ∧ M (227 + 2 * k.toNat + 1) = zr := by
      rcases (show k = 0 ∨ k = 1 ∨ k = 2 ∨ k = 3 by omega) with rfl | rfl | rfl | rfl
      · exact h0
      · exact h1
      · exact h2
      · exact h3
    have e11 := s11 k a b
    unfold lnR
    rw [e11, s12, s13, e.1, e.2.1, e.2.2]
    exact ⟨rfl, rfl, fun _ _ _ => rfl, Or.inl rfl, ⟨Int.le_refl 0, show (0 : Int) ≤ 40 by decide⟩, fun _ _ _ => ⟨show (-2147483648 : Int) ≤ 0 by decide, show (0 : Int) ≤ 2147483647 by decide⟩⟩
