/-! longs compared and divided; the greatest common divisor -/
theorem jN_le {a b : Int} (ha : in64 a) (hb : in64 b) : jN a ≤ jN b ↔ a ≤ b := by
  rw [Int64.le_iff_toInt_le, jN_toInt ha, jN_toInt hb]
theorem jN_div {a b : Int} (h0 : 0 ≤ a) (ha : in64 a) (hb : 0 < b) (hb2 : in64 b) : jN a / jN b = jN (a / b) := by
  have e : (jN a).toInt.tdiv (jN b).toInt = a / b := by
    rw [jN_toInt ha, jN_toInt hb2, Int.tdiv_eq_ediv_of_nonneg h0]
  have h1 : 0 ≤ a / b := Int.ediv_nonneg h0 (by omega)
  have h2 : a / b ≤ a := Int.ediv_le_self _ h0
  have := ha.2
  rw [← Int64.toInt_inj, Int64.toInt_div_of_ne_right _ _ (by rw [show (-1 : Int64) = jN (-1) from rfl, Ne, jN_eq hb2 (by decide)]; omega), e, jN_toInt ⟨by omega, by omega⟩]
section RJ
variable {p : Program} {l : Launch} {e : Env} {R : Room} {s : State} {m : MethodId} {args : Array Value} {below : List Frame} {meth : Method} {c : Code} {H : Heap} {locs : List Loc} {cells slots : Nat} {Q : State → Prop}
variable {cc : ByteArray} {pc : Nat} {ls : Array Slot} {rest : List Value}
theorem rw_ldiv (hx : p.tables.exec = Jvm.exec) (hb : c.code = cc) {a b : Int} (hdg : decode cc pc = .ok (.ldiv, 1)) (h0 : 0 ≤ a) (ha : in64 a) (hb0 : 0 < b) (hb2 : in64 b) (kk : W p l e R s m args below meth c H locs cells slots Q (F0 m (pc + 1) ls (.long (jN (a / b)) :: rest))) : W p l e R s m args below meth c H locs cells slots Q (F0 m pc ls (.long (jN b) :: .long (jN a) :: rest)) := by
  refine lv_ldiv hx hb hdg (fun h => ?_) ?_
  · rw [show (0 : Int64) = jN 0 from rfl, jN_eq hb2 (by decide)] at h
    omega
  · rw [jN_div h0 ha hb0 hb2]
    exact kk
theorem rw_lrem (hx : p.tables.exec = Jvm.exec) (hb : c.code = cc) {a b : Int} (hdg : decode cc pc = .ok (.lrem, 1)) (h0 : 0 ≤ a) (ha : in64 a) (hb0 : 0 < b) (hb2 : in64 b) (kk : W p l e R s m args below meth c H locs cells slots Q (F0 m (pc + 1) ls (.long (jN (a % b)) :: rest))) : W p l e R s m args below meth c H locs cells slots Q (F0 m pc ls (.long (jN b) :: .long (jN a) :: rest)) := by
  refine lv_lrem hx hb hdg (fun h => ?_) ?_
  · rw [show (0 : Int64) = jN 0 from rfl, jN_eq hb2 (by decide)] at h
    omega
  · rw [jN_div h0 ha hb0 hb2, jN_mul, jN_sub]
    have h := Int.emod_add_mul_ediv a b
    rw [show a - a / b * b = a % b by rw [Int.mul_comm]; omega]
    exact kk
theorem rw_lcmp_eq (hx : p.tables.exec = Jvm.exec) (hb : c.code = cc) {a b off : Int} {tgt : Nat} (hdg : decode cc pc = .ok (.lcmp, 1)) (hdg2 : decode cc (pc + 1) = .ok (.ifCond .eq off, 3)) (ht : ((pc + 1 : Nat) : Int) + off = (tgt : Int)) (ha : in64 a) (hb' : in64 b) (kt : a = b → W p l e R s m args below meth c H locs cells slots Q (F0 m tgt ls rest)) (kf : ¬ a = b → W p l e R s m args below meth c H locs cells slots Q (F0 m (pc + 1 + 3) ls rest)) : W p l e R s m args below meth c H locs cells slots Q (F0 m pc ls (.long (jN b) :: .long (jN a) :: rest)) :=
  W.lcmp hx hb hdg (lv_if_eq hx hb hdg2 ht (fun h => kt ((jN_eq ha hb').mp ((lg_cmp_eq _ _).mp h))) (fun h => kf (fun q => h ((lg_cmp_eq _ _).mpr (by rw [q])))))
theorem rw_lcmp_gt (hx : p.tables.exec = Jvm.exec) (hb : c.code = cc) {a b off : Int} {tgt : Nat} (hdg : decode cc pc = .ok (.lcmp, 1)) (hdg2 : decode cc (pc + 1) = .ok (.ifCond .gt off, 3)) (ht : ((pc + 1 : Nat) : Int) + off = (tgt : Int)) (ha : in64 a) (hb' : in64 b) (kt : b < a → W p l e R s m args below meth c H locs cells slots Q (F0 m tgt ls rest)) (kf : ¬ b < a → W p l e R s m args below meth c H locs cells slots Q (F0 m (pc + 1 + 3) ls rest)) : W p l e R s m args below meth c H locs cells slots Q (F0 m pc ls (.long (jN b) :: .long (jN a) :: rest)) :=
  W.lcmp hx hb hdg (lv_if_gt hx hb hdg2 ht (fun h => kt ((jN_lt hb' ha).mp ((lg_cmp_gt _ _).mp h))) (fun h => kf (fun q => h ((lg_cmp_gt _ _).mpr ((jN_lt hb' ha).mpr q)))))
theorem rw_lcmp_lt (hx : p.tables.exec = Jvm.exec) (hb : c.code = cc) {a b off : Int} {tgt : Nat} (hdg : decode cc pc = .ok (.lcmp, 1)) (hdg2 : decode cc (pc + 1) = .ok (.ifCond .lt off, 3)) (ht : ((pc + 1 : Nat) : Int) + off = (tgt : Int)) (ha : in64 a) (hb' : in64 b) (kt : a < b → W p l e R s m args below meth c H locs cells slots Q (F0 m tgt ls rest)) (kf : ¬ a < b → W p l e R s m args below meth c H locs cells slots Q (F0 m (pc + 1 + 3) ls rest)) : W p l e R s m args below meth c H locs cells slots Q (F0 m pc ls (.long (jN b) :: .long (jN a) :: rest)) :=
  W.lcmp hx hb hdg (lv_if_lt hx hb hdg2 ht (fun h => kt ((jN_lt ha hb').mp ((lg_cmp_lt _ _).mp h))) (fun h => kf (fun q => h ((lg_cmp_lt _ _).mpr ((jN_lt ha hb').mpr q)))))
end RJ
def gcdI (a b : Int) : Int := ((Nat.gcd a.toNat b.toNat : Nat) : Int)
theorem gcdI_step {a b : Int} (h0 : 0 ≤ a) (hb : 0 < b) : gcdI b (a % b) = gcdI a b := by
  unfold gcdI
  rw [Nat.gcd_comm a.toNat b.toNat, Nat.gcd_rec b.toNat a.toNat, Nat.gcd_comm]
  congr 2
  have h1 : (a % b).toNat = a.toNat % b.toNat := by
    have h2 := Int.toNat_emod h0 (show 0 ≤ b by omega)
    exact h2
  exact h1
theorem gcdI_0 {a : Int} (h0 : 0 ≤ a) : gcdI a 0 = a := by
  unfold gcdI
  rw [show (0 : Int).toNat = 0 from rfl, Nat.gcd_zero_right]
  omega
theorem gcdI_pos {a b : Int} (hb : 0 < b) : 0 < gcdI a b := by
  unfold gcdI
  have : 0 < Nat.gcd a.toNat b.toNat := Nat.gcd_pos_of_pos_right _ (by omega)
  omega
theorem gcdI_le {a b : Int} (hb : 0 < b) : gcdI a b ≤ b := by
  unfold gcdI
  have := Nat.le_of_dvd (show 0 < b.toNat by omega) (Nat.gcd_dvd_right a.toNat b.toNat)
  omega
/-- a remainder halves what two numbers make -/
theorem prod_half {a b : Int} (hb : 0 < b) (hab : b ≤ a) : b * (a % b) * 2 ≤ a * b := by
  have h1 := Int.emod_add_mul_ediv a b
  have h2 := Int.emod_lt_of_pos a hb
  have h3 : 1 ≤ a / b := Int.le_ediv_of_mul_le hb (by omega)
  have h4 : b * 1 ≤ b * (a / b) := Int.mul_le_mul_of_nonneg_left h3 (by omega)
  have h5 : a % b * 2 ≤ a := by omega
  have h6 : b * (a % b * 2) ≤ b * a := Int.mul_le_mul_of_nonneg_left h5 (by omega)
  rw [Int.mul_assoc, Int.mul_comm a b]
  exact h6
/-- so many rounds are enough: what two numbers make, times 2 for each round, stays below 2 to the 60th -/
def GI (a b : Int) (r : Nat) : Prop := 0 ≤ a ∧ 0 ≤ b ∧ (r = 0 ∨ b ≤ a) ∧ a * b * 2 ^ (r - 1) ≤ 2 ^ 60
theorem GI.step {a b : Int} {r : Nat} (h : GI a b r) (hb : 0 < b) : GI b (a % b) (r + 1) := by
  obtain ⟨h0, h1, h2, h3⟩ := h
  have hl := Int.emod_lt_of_pos a hb
  have hn := Int.emod_nonneg a (show b ≠ 0 by omega)
  refine ⟨h1, hn, Or.inr (by omega), ?_⟩
  rw [Nat.add_sub_cancel]
  rcases h2 with rfl | h2
  · have h4 : a % b ≤ a := by
      have q1 := Int.emod_add_mul_ediv a b
      have q2 : 0 ≤ b * (a / b) := Int.mul_nonneg h1 (Int.ediv_nonneg h0 h1)
      omega
    have h5 : b * (a % b) ≤ b * a := Int.mul_le_mul_of_nonneg_left h4 h1
    rw [Int.pow_zero, Int.mul_one]
    rw [show (0 : Nat) - 1 = 0 from rfl, Int.pow_zero, Int.mul_one, Int.mul_comm] at h3
    omega
  · have h4 := prod_half hb h2
    rcases r with _ | r
    · have h5 : 0 ≤ b * (a % b) := Int.mul_nonneg h1 hn
      rw [Int.pow_zero, Int.mul_one]
      rw [show (0 : Nat) - 1 = 0 from rfl, Int.pow_zero, Int.mul_one] at h3
      omega
    · rw [Nat.add_sub_cancel] at h3
      have h5 : b * (a % b) * 2 * 2 ^ r ≤ a * b * 2 ^ r := Int.mul_le_mul_of_nonneg_right h4 (Int.le_of_lt (Int.pow_pos (by decide)))
      rw [Int.pow_succ, Int.mul_comm (2 ^ r) 2, ← Int.mul_assoc]
      omega
theorem GI.done {a b : Int} {r : Nat} (h : GI a b r) (hr : 128 ≤ r) : b = 0 ∨ a = 0 := by
  obtain ⟨h0, h1, h2, h3⟩ := h
  rcases Int.lt_or_le 0 b with q | q
  · rcases Int.lt_or_le 0 a with z | z
    · exfalso
      have h4 : (1 : Int) ≤ a * b := Int.mul_pos z q
      have h5 : (2 : Int) ^ 61 ≤ 2 ^ (r - 1) := by
        have : (2 : Nat) ^ 61 ≤ 2 ^ (r - 1) := Nat.pow_le_pow_right (by decide) (by omega)
        exact_mod_cast this
      have h6 : 1 * (2 : Int) ^ (r - 1) ≤ a * b * 2 ^ (r - 1) := Int.mul_le_mul_of_nonneg_right h4 (Int.le_of_lt (Int.pow_pos (by decide)))
      have : (2 : Int) ^ 61 = 2305843009213693952 := by decide
      have : (2 : Int) ^ 60 = 1152921504606846976 := by decide
      omega
    · exact Or.inr (by omega)
  · exact Or.inl (by omega)
def sumTo (g : Int → Int) : Nat → Int
  | 0 => 0
  | n + 1 => sumTo g n + g n * n
/-! replies -/
abbrev BS : Type := Int × Int × (Int → Int)
def foldB (F : Int → BS → BS) : Nat → BS → BS
  | 0, b => b
  | c + 1, b => F c (foldB F c b)
def mostF (f : Int → Int) (s : Int) : Int := if f 47 ≤ f 27 then 0 else sdF f s 0
def srch (s : Int) : Nat → Int → (Int → Int) → (Int → Int) → BS → BS
  | 0, _, f, p, B => if distF f s < B.1 then (distF f s, f 27, p) else B
  | j + 1, k, f, p, B => foldB (fun c B => srch s j (k + 1) (passBut f s c) (updI p k c) B) (mostF f s + 1).toNat B
theorem srch_0 {s k : Int} {f p : Int → Int} {B : BS} : srch s 0 k f p B = if distF f s < B.1 then (distF f s, f 27, p) else B := by rw [srch]
theorem srch_1 {s k : Int} {f p : Int → Int} {B : BS} {j : Nat} : srch s (j + 1) k f p B = foldB (fun c B => srch s j (k + 1) (passBut f s c) (updI p k c) B) (mostF f s + 1).toNat B := by rw [srch]
theorem spot_shift {f : Int → Int} (h : InvF f) (hk : ¬ f 47 ≤ f 27) {w : Int} (hw : -1 ≤ w ∧ w ≤ 1) : spotF f (shiftK (f 47) (f 27) w) = spotF f (f 27) + w := by
  have h1 := h.1
  have h2 := h.2.1
  unfold spotF shiftK
  rw [if_neg hk]
  repeat' split
  all_goals omega
theorem near_step {f : Int → Int} (h : InvF f) {s x : Int} (hs : s = 0 ∨ s = 1) (hx : 0 ≤ x ∧ x ≤ sdF f s 0) (hm : f 46 < 100000) {n : Int} (hn : 0 ≤ n) : nearF f s (n + 1) ≤ nearF (passBut f s x) s n := by
  by_cases hk : f 47 ≤ f 27
  · have e : passBut f s x = f := if_pos hk
    rw [e]
    unfold nearF
    rw [if_pos hk, if_pos hk]
    omega
  · have key : ∀ u v, distF f s - 1 ≤ distF (passF f u v 0) s := fun u v => by
      have hw := wayF_rng f (netF f u v)
      have hsp := spot_shift h hk hw
      have e1 : spotF (passF f u v 0) (passF f u v 0 27) = spotF f (f 27) + wayF f (netF f u v) := hsp
      have e2 : passF f u v 0 47 = f 47 := rfl
      unfold distF
      rw [e1, e2]
      split <;> omega
    have hr : ∀ u v, 0 ≤ u → u ≤ sdF f 0 0 → 0 ≤ v → v ≤ sdF f 1 0 → 0 ≤ distF (passF f u v 0) s := fun u v a1 a2 a3 a4 => (distF_rng (passF_inv h hm ⟨a1, a2⟩ ⟨a3, a4⟩) s).1
    have s0 := sentF_rng h (s := 0) (Or.inl rfl)
    have s1 := sentF_rng h (s := 1) (Or.inr rfl)
    have hd := distF_rng h s
    have : ∀ g : Int → Int, distF f s - 1 ≤ distF g s → 0 ≤ distF g s → nearF f s (n + 1) ≤ nearF g s n := fun g a1 a2 => by
      unfold nearF
      rw [if_neg hk]
      split <;> omega
    rcases hs with rfl | rfl
    · have e : passBut f 0 x = passF f x (sentF f 1) 0 := by
        unfold passBut
        rw [if_neg hk, if_pos rfl]
      rw [e]
      exact this _ (key _ _) (hr _ _ hx.1 hx.2 s1.1 s1.2)
    · have e : passBut f 1 x = passF f (sentF f 0) x 0 := by
        unfold passBut
        rw [if_neg hk, if_neg (by decide)]
      rw [e]
      exact this _ (key _ _) (hr _ _ s0.1 s0.2 hx.1 hx.2)
theorem passBut_inv {f : Int → Int} (h : InvF f) (hm : f 46 < 100000) {s x : Int} (hs : s = 0 ∨ s = 1) (hx : 0 ≤ x ∧ x ≤ sdF f s 0) : InvF (passBut f s x) := by
  unfold passBut
  split
  · exact h
  · rcases hs with rfl | rfl
    · rw [if_pos rfl]; exact passF_inv h hm hx (sentF_rng h (Or.inr rfl))
    · rw [if_neg (by decide)]; exact passF_inv h hm (sentF_rng h (Or.inl rfl)) hx
theorem passBut_min (f : Int → Int) (s x : Int) : passBut f s x 46 ≤ f 46 + 1 := by
  unfold passBut
  split
  · omega
  · split
    · show f 46 + 1 ≤ f 46 + 1; omega
    · show f 46 + 1 ≤ f 46 + 1; omega
theorem mostF_rng {f : Int → Int} (h : InvF f) {s : Int} (hs : s = 0 ∨ s = 1) : 0 ≤ mostF f s ∧ mostF f s ≤ sdF f s 0 ∧ mostF f s ≤ 12 := by
  obtain ⟨a0, a1, a2, a3, a4, a5, -⟩ := InvF.sd f h hs
  unfold mostF
  split <;> omega
/-- what can only be as near changes nothing -/
theorem srch_cut {s : Int} (hs : s = 0 ∨ s = 1) : ∀ (j : Nat) (k : Int) (f p : Int → Int) (B : BS), InvF f → f 46 + j ≤ 100000 → B.1 ≤ nearF f s j → srch s j k f p B = B
  | 0, k, f, p, B, h, _, hb => by
    have hd := distF_rng h s
    rw [srch_0, if_neg]
    unfold nearF at hb
    split at hb <;> omega
  | j + 1, k, f, p, B, h, hm, hb => by
    rw [srch_1]
    have hmo := mostF_rng h hs
    have : ∀ c : Nat, (c : Int) ≤ mostF f s + 1 → foldB (fun c B => srch s j (k + 1) (passBut f s c) (updI p k c) B) c B = B := by
      intro c
      induction c with
      | zero => intro _; rfl
      | succ c ih =>
        intro hc
        show srch s j (k + 1) (passBut f s (c : Int)) (updI p k (c : Int)) (foldB _ c B) = B
        rw [ih (by omega)]
        have hx : 0 ≤ (c : Int) ∧ (c : Int) ≤ sdF f s 0 := ⟨by omega, by omega⟩
        have hst := near_step h hs hx (by omega) (n := (j : Int)) (by omega)
        refine srch_cut hs j (k + 1) _ _ B (passBut_inv h (by omega) hs hx) ?_ ?_
        · have := passBut_min f s (c : Int); omega
        · rw [show ((j + 1 : Nat) : Int) = (j : Int) + 1 by omega] at hb
          omega
    exact this _ (by omega)
theorem GI.start {a b : Int} (ha : 0 ≤ a ∧ a ≤ 1073741824) (hb : 0 ≤ b ∧ b ≤ 1073741824) : GI a b 0 := by
  refine ⟨ha.1, hb.1, Or.inl rfl, ?_⟩
  rw [show (0 : Nat) - 1 = 0 from rfl, Int.pow_zero, Int.mul_one]
  have h1 : a * b ≤ 1073741824 * b := Int.mul_le_mul_of_nonneg_right ha.2 hb.1
  have : (2 : Int) ^ 60 = 1152921504606846976 := by decide
  omega
def fracF (u v w : Int) : Int := if w = 0 then u / gcdI u v else v / gcdI u v
theorem srch_rng {s : Int} (hs : s = 0 ∨ s = 1) : ∀ (j : Nat) (k : Int) (f p : Int → Int) (B : BS), InvF f → f 46 + j ≤ 100000 → 0 ≤ B.1 → 0 ≤ (srch s j k f p B).1 ∧ (srch s j k f p B).1 ≤ B.1
  | 0, k, f, p, B, h, _, hb => by
    have hd := distF_rng h s
    rw [srch_0]
    split
    · show 0 ≤ distF f s ∧ distF f s ≤ B.1; omega
    · omega
  | j + 1, k, f, p, B, h, hm, hb => by
    rw [srch_1]
    have hmo := mostF_rng h hs
    have : ∀ c : Nat, (c : Int) ≤ mostF f s + 1 → 0 ≤ (foldB (fun c B => srch s j (k + 1) (passBut f s c) (updI p k c) B) c B).1 ∧ (foldB (fun c B => srch s j (k + 1) (passBut f s c) (updI p k c) B) c B).1 ≤ B.1 := by
      intro c
      induction c with
      | zero => intro _; exact ⟨hb, Int.le_refl _⟩
      | succ c ih =>
        intro hc
        have ih := ih (by omega)
        have hx : 0 ≤ (c : Int) ∧ (c : Int) ≤ sdF f s 0 := ⟨by omega, by omega⟩
        have h2 := srch_rng hs j (k + 1) (passBut f s (c : Int)) (updI p k (c : Int)) (foldB (fun c B => srch s j (k + 1) (passBut f s c) (updI p k c) B) c B) (passBut_inv h (by omega) hs hx) (by have := passBut_min f s (c : Int); omega) ih.1
        exact ⟨h2.1, Int.le_trans h2.2 ih.2⟩
    exact this _ (by omega)
theorem nearF_rng {f : Int → Int} (h : InvF f) (s : Int) {n : Int} (hn : 0 ≤ n) : 0 ≤ nearF f s n ∧ nearF f s n ≤ 10 := by
  have hd := distF_rng h s
  have hc := h.1
  unfold nearF
  split <;> omega
