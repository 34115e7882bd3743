/-! replies by all rows of numbers -/
def p13 (e : Int) : Int := (13 : Int) ^ e.toNat
theorem p13_pos (e : Int) : 0 < p13 e := Int.pow_pos (by decide)
theorem p13_S {e : Int} (h : 0 ≤ e) : p13 (e + 1) = p13 e * 13 := by
  unfold p13
  rw [show (e + 1).toNat = e.toNat + 1 by omega, Int.pow_succ]
theorem p13_rng {e : Int} (h : 0 ≤ e ∧ e ≤ 4) : 1 ≤ p13 e ∧ p13 e ≤ 28561 ∧ p13 e = ((13 ^ e.toNat : Nat) : Int) := by
  rcases (show e = 0 ∨ e = 1 ∨ e = 2 ∨ e = 3 ∨ e = 4 by omega) with rfl | rfl | rfl | rfl | rfl <;> decide
def canN (s : Int) : Nat → Int → (Int → Int) → (Int → Int) → Prop
  | 0, _, _, _ => True
  | j + 1, k, f, q => q k ≤ mostF f s ∧ canN s j (k + 1) (passBut f s (q k)) q
def endN (s : Int) : Nat → Int → (Int → Int) → (Int → Int) → Int → Int
  | 0, _, f, _ => f
  | j + 1, k, f, q => endN s j (k + 1) (passBut f s (q k)) q
theorem canN_S {s k : Int} {j : Nat} {f q : Int → Int} : canN s (j + 1) k f q ↔ q k ≤ mostF f s ∧ canN s j (k + 1) (passBut f s (q k)) q := by rw [canN]
theorem endN_S {s k : Int} {j : Nat} {f q : Int → Int} : endN s (j + 1) k f q = endN s j (k + 1) (passBut f s (q k)) q := by rw [endN]
theorem canN_congr {s : Int} {q q' : Int → Int} : ∀ (j : Nat) (k : Int) (f : Int → Int), (∀ i, k ≤ i → i < k + j → q i = q' i) → (canN s j k f q ↔ canN s j k f q') ∧ endN s j k f q = endN s j k f q'
  | 0, _, _, _ => ⟨Iff.rfl, rfl⟩
  | j + 1, k, f, h => by
    have e := h k (by omega) (by omega)
    have r := canN_congr (s := s) j (k + 1) (passBut f s (q' k)) (fun i h1 h2 => h i (by omega) (by omega))
    rw [canN_S, canN_S, endN_S, endN_S, e, r.1, r.2]
    exact ⟨Iff.rfl, rfl⟩
/-- both have nothing, or the same -/
def Bsm (n : Int) (B B' : BS) : Prop := B.1 = B'.1 ∧ B.1 ≤ 11 ∧ (B.1 < 11 → B.2.1 = B'.2.1 ∧ ∀ i, 0 ≤ i → i < n → B.2.2 i = B'.2.2 i)
noncomputable def stepN (s : Int) (j : Nat) (k : Int) (f q : Int → Int) (B : BS) : BS := @ite _ (canN s j k f q) (Classical.propDecidable _) (if distF (endN s j k f q) s < B.1 then (distF (endN s j k f q) s, endN s j k f q 27, q) else B) B
theorem stepN_t {s k : Int} {j : Nat} {f q : Int → Int} {B : BS} (h : canN s j k f q) : stepN s j k f q B = if distF (endN s j k f q) s < B.1 then (distF (endN s j k f q) s, endN s j k f q 27, q) else B := by unfold stepN; exact if_pos h
theorem stepN_f {s k : Int} {j : Nat} {f q : Int → Int} {B : BS} (h : ¬ canN s j k f q) : stepN s j k f q B = B := by unfold stepN; exact if_neg h
theorem stepN_sm {n s k : Int} {j : Nat} {f q q' : Int → Int} {B B' : BS} (hk : 0 ≤ k ∧ k + j = n) (hq : ∀ i, 0 ≤ i → i < n → q i = q' i) (hB : Bsm n B B') : Bsm n (stepN s j k f q B) (stepN s j k f q' B') := by
  have r := canN_congr (s := s) (q := q) (q' := q') j k f (fun i h1 h2 => hq i (by omega) (by omega))
  by_cases c : canN s j k f q
  · rw [stepN_t c, stepN_t (r.1.1 c), ← r.2, ← hB.1]
    by_cases d : distF (endN s j k f q) s < B.1
    · rw [if_pos d, if_pos d]
      exact ⟨rfl, by have := hB.2.1; show distF _ _ ≤ 11; omega, fun _ => ⟨rfl, hq⟩⟩
    · rw [if_neg d, if_neg d]; exact hB
  · rw [stepN_f c, stepN_f (fun z => c (r.1.2 z))]; exact hB
theorem foldB_sm {n : Int} {F G : Int → BS → BS} : ∀ (m : Nat) {B B' : BS}, (∀ c : Nat, c < m → ∀ B B', Bsm n B B' → Bsm n (F c B) (G c B')) → Bsm n B B' → Bsm n (foldB F m B) (foldB G m B')
  | 0, _, _, _, h => h
  | m + 1, B, B', hh, h => hh m (by omega) _ _ (foldB_sm m (fun c hc => hh c (by omega)) h)
theorem foldB_add {F : Int → BS → BS} (a : Nat) (B : BS) : ∀ b : Nat, foldB F (a + b) B = foldB (fun r B => F (a + r) B) b (foldB F a B)
  | 0 => rfl
  | b + 1 => by
    show F ((a + b : Nat) : Int) (foldB F (a + b) B) = F ((a : Int) + b) _
    rw [foldB_add a B b, Int.natCast_add]
theorem foldB_blocks {F : Int → BS → BS} (m : Nat) (B : BS) : ∀ a : Nat, foldB F (a * m) B = foldB (fun c B => foldB (fun r B => F (c * m + r) B) m B) a B
  | 0 => by rw [Nat.zero_mul]; rfl
  | a + 1 => by
    rw [Nat.succ_mul, foldB_add, foldB_blocks m B a]
    show foldB _ m _ = foldB (fun r B => F ((a : Int) * m + r) B) m _
    rw [Int.natCast_mul]
theorem foldB_stop {F : Int → BS → BS} {B : BS} (a : Nat) : ∀ b : Nat, (∀ c : Nat, a ≤ c → c < a + b → ∀ B, F c B = B) → foldB F (a + b) B = foldB F a B
  | 0, _ => rfl
  | b + 1, h => by
    show F ((a + b : Nat) : Int) (foldB F (a + b) B) = _
    rw [h (a + b) (by omega) (by omega), foldB_stop a b (fun c h1 h2 => h c h1 (by omega))]
def mixQ (n k w : Int) (q : Int → Int) : Int → Int := fun i => if i < k then q i else w / p13 (n - 1 - i) % 13
theorem dig_top {c r : Int} {j : Nat} (hc : 0 ≤ c ∧ c < 13) (hr : 0 ≤ r ∧ r < 13 ^ j) : (c * 13 ^ j + r) / p13 j % 13 = c := by
  have hp : p13 (j : Int) = 13 ^ j := by unfold p13; rw [Int.toNat_natCast]
  rw [hp, Int.add_comm, Int.add_mul_ediv_right _ _ (by have : (0 : Int) < 13 ^ j := Int.pow_pos (by decide); omega), Int.ediv_eq_zero_of_lt hr.1 hr.2]
  omega
theorem dig_low {c r e : Int} {j : Nat} (he : 0 ≤ e ∧ e < j) : (c * 13 ^ j + r) / p13 e % 13 = r / p13 e % 13 := by
  obtain ⟨d, hd⟩ : ∃ d : Nat, j = e.toNat + (d + 1) := ⟨j - e.toNat - 1, by omega⟩
  have hp : (13 : Int) ^ j = 13 * 13 ^ d * p13 e := by
    unfold p13
    rw [hd, Int.pow_add, Int.pow_succ, Int.mul_comm, Int.mul_comm (13 ^ d) 13]
  rw [hp, ← Int.mul_assoc, Int.add_comm, Int.add_mul_ediv_right _ _ (by have := p13_pos e; omega), ← Int.mul_assoc, Int.mul_comm c 13, Int.mul_assoc]
  omega
theorem mix_step {n k c r : Int} {j : Nat} {q : Int → Int} (hk : 0 ≤ k) (hn : k + (j + 1 : Nat) = n) (hc : 0 ≤ c ∧ c < 13) (hr : 0 ≤ r ∧ r < 13 ^ j) {i : Int} (h0 : 0 ≤ i) (h1 : i < n) : mixQ n k (c * 13 ^ j + r) q i = mixQ n (k + 1) r (updI q k c) i := by
  unfold mixQ
  rcases (show i < k ∨ i = k ∨ k < i by omega) with e | e | e
  · rw [if_pos e, if_pos (by omega)]; unfold updI; rw [if_neg (by omega)]
  · rw [if_neg (by omega), if_pos (by omega)]; unfold updI; rw [if_pos e, show n - 1 - i = (j : Int) by omega]; exact dig_top hc hr
  · rw [if_neg (by omega), if_neg (by omega)]; exact dig_low (by omega)
theorem srch_fold {n s : Int} (hs : s = 0 ∨ s = 1) : ∀ (j : Nat) (k : Int) (f q : Int → Int) (B B' : BS), InvF f → f 46 + j ≤ 100000 → 0 ≤ k → k + j = n → Bsm n B B' → Bsm n (srch s j k f q B) (foldB (fun r B => stepN s j k f (mixQ n k r q) B) (13 ^ j) B')
  | 0, k, f, q, B, B', h, _, hk, hn, hB => by
    show Bsm n _ (stepN s 0 k f (mixQ n k 0 q) B')
    rw [srch_0, stepN_t (by trivial)]
    show Bsm n _ (if distF f s < B'.1 then (distF f s, f 27, mixQ n k 0 q) else B')
    rw [← hB.1]
    by_cases d : distF f s < B.1
    · rw [if_pos d, if_pos d]
      exact ⟨rfl, by have := hB.2.1; show distF _ _ ≤ 11; omega, fun _ => ⟨rfl, fun i h1 h2 => (if_pos (show i < k by omega)).symm⟩⟩
    · rw [if_neg d, if_neg d]; exact hB
  | j + 1, k, f, q, B, B', h, hm, hk, hn, hB => by
    have hmo := mostF_rng h hs
    have hp : (0 : Int) < 13 ^ j := Int.pow_pos (by decide)
    have hcast : ((13 ^ j : Nat) : Int) = 13 ^ j := by rw [Int.natCast_pow]; rfl
    rw [srch_1, Nat.pow_succ, Nat.mul_comm, foldB_blocks]
    obtain ⟨z, hz⟩ : ∃ z : Nat, 13 = (mostF f s + 1).toNat + z := ⟨13 - (mostF f s + 1).toNat, by omega⟩
    have hstop : foldB (fun c B => foldB (fun r B => stepN s (j + 1) k f (mixQ n k (c * ((13 ^ j : Nat) : Int) + r) q) B) (13 ^ j) B) 13 B' = foldB (fun c B => foldB (fun r B => stepN s (j + 1) k f (mixQ n k (c * ((13 ^ j : Nat) : Int) + r) q) B) (13 ^ j) B) (mostF f s + 1).toNat B' := by
      have q9 := foldB_stop (F := fun c B => foldB (fun r B => stepN s (j + 1) k f (mixQ n k (c * ((13 ^ j : Nat) : Int) + r) q) B) (13 ^ j) B) (B := B') (mostF f s + 1).toNat z (fun c h1 h2 B => by
        have q8 := foldB_stop (F := fun r B => stepN s (j + 1) k f (mixQ n k ((c : Int) * ((13 ^ j : Nat) : Int) + r) q) B) (B := B) 0 (13 ^ j) (fun r _ hr B => by
          show stepN s (j + 1) k f (mixQ n k ((c : Int) * ((13 ^ j : Nat) : Int) + (r : Int)) q) B = B
          refine stepN_f (fun w => ?_)
          have w1 := (canN_S.1 w).1
          have e : mixQ n k ((c : Int) * ((13 ^ j : Nat) : Int) + (r : Int)) q k = c := by
            rw [hcast, mix_step hk (by omega) (by omega) ⟨by omega, by rw [← hcast]; exact_mod_cast (by omega : r < 13 ^ j)⟩ hk (by omega)]
            unfold mixQ updI
            rw [if_pos (by omega), if_pos rfl]
          rw [e] at w1
          omega)
        rw [Nat.zero_add] at q8
        exact q8)
      rw [← hz] at q9
      exact q9
    rw [hstop]
    refine foldB_sm _ (fun c hc B B' hB => ?_) hB
    have hcm : (c : Int) ≤ mostF f s := by omega
    have IH := srch_fold hs j (k + 1) (passBut f s c) (updI q k c) B B' (passBut_inv h (by omega) hs ⟨by omega, by omega⟩) (by have := passBut_min f s c; omega) (by omega) (by omega) hB
    refine ⟨IH.1.trans ?_, IH.2.1, fun hlt => ?_⟩
    all_goals
      have q7 : Bsm n (foldB (fun r B => stepN s j (k + 1) (passBut f s c) (mixQ n (k + 1) r (updI q k c)) B) (13 ^ j) B') (foldB (fun r B => stepN s (j + 1) k f (mixQ n k ((c : Int) * ((13 ^ j : Nat) : Int) + r) q) B) (13 ^ j) B') := by
        refine foldB_sm _ (fun r hr B B' hB => ?_) ⟨rfl, by rw [← hB.1]; exact hB.2.1, fun _ => ⟨rfl, fun _ _ _ => rfl⟩⟩
        have hrr : (0 : Int) ≤ r ∧ (r : Int) < 13 ^ j := ⟨by omega, by rw [← hcast]; exact_mod_cast hr⟩
        have e : mixQ n k ((c : Int) * ((13 ^ j : Nat) : Int) + (r : Int)) q k = c := by
          rw [hcast, mix_step hk (by omega) (by omega) hrr hk (by omega)]
          unfold mixQ updI
          rw [if_pos (by omega), if_pos rfl]
        have e2 : stepN s (j + 1) k f (mixQ n k ((c : Int) * ((13 ^ j : Nat) : Int) + (r : Int)) q) B' = stepN s j (k + 1) (passBut f s c) (mixQ n k ((c : Int) * ((13 ^ j : Nat) : Int) + (r : Int)) q) B' := by
          have cc := canN_S (s := s) (j := j) (k := k) (f := f) (q := mixQ n k ((c : Int) * ((13 ^ j : Nat) : Int) + (r : Int)) q)
          have ee := endN_S (s := s) (j := j) (k := k) (f := f) (q := mixQ n k ((c : Int) * ((13 ^ j : Nat) : Int) + (r : Int)) q)
          rw [e] at cc ee
          by_cases g : canN s (j + 1) k f (mixQ n k ((c : Int) * ((13 ^ j : Nat) : Int) + (r : Int)) q)
          · rw [stepN_t g, stepN_t (cc.1 g).2, ee]
          · rw [stepN_f g, stepN_f (fun z => g (cc.2 ⟨hcm, z⟩))]
        show Bsm n _ (stepN s (j + 1) k f (mixQ n k ((c : Int) * ((13 ^ j : Nat) : Int) + (r : Int)) q) B')
        rw [e2]
        exact stepN_sm ⟨by omega, by omega⟩ (fun i h1 h2 => by rw [hcast]; exact (mix_step hk (by omega) (by omega) hrr h1 h2).symm) hB
    · exact q7.1
    · have h2 := IH.2.2 hlt
      have h3 := q7.2.2 (by rw [← IH.1]; exact hlt)
      exact ⟨h2.1.trans h3.1, fun i a b => (h2.2 i a b).trans (h3.2 i a b)⟩
theorem passBut_47 (f : Int → Int) (s x : Int) : passBut f s x 47 = f 47 := by
  unfold passBut
  (repeat' split) <;> rfl
theorem endN_inv {s : Int} (hs : s = 0 ∨ s = 1) {q : Int → Int} : ∀ (j : Nat) (k : Int) (f : Int → Int), (∀ i, k ≤ i → i < k + j → 0 ≤ q i) → canN s j k f q → InvF f → f 46 + j ≤ 100000 → InvF (endN s j k f q) ∧ endN s j k f q 47 = f 47
  | 0, _, _, _, _, h, _ => ⟨h, rfl⟩
  | j + 1, k, f, hq, hc, h, hm => by
    rw [canN_S] at hc
    rw [endN_S]
    have hmo := mostF_rng h hs
    have h0 := hq k (by omega) (by omega)
    have r := endN_inv hs j (k + 1) (passBut f s (q k)) (fun i h1 h2 => hq i (by omega) (by omega)) hc.2 (passBut_inv h (by omega) hs ⟨h0, by omega⟩) (by have := passBut_min f s (q k); omega)
    exact ⟨r.1, r.2.trans (passBut_47 f s _)⟩
noncomputable def FBr (n s : Int) (f b : Int → Int) (w : Nat) : BS := foldB (fun r B => stepN s n.toNat 0 f (mixQ n 0 r (fun _ => 0)) B) w (11, -4, b)
theorem FBr_0 {n s : Int} {f b : Int → Int} : FBr n s f b 0 = (11, -4, b) := rfl
theorem FBr_S {n s : Int} {f b : Int → Int} {w : Int} (h : 0 ≤ w) : FBr n s f b (w + 1).toNat = stepN s n.toNat 0 f (mixQ n 0 w (fun _ => 0)) (FBr n s f b w.toNat) := by
  rw [show (w + 1).toNat = w.toNat + 1 by omega]
  show stepN s n.toNat 0 f (mixQ n 0 ((w.toNat : Nat) : Int) (fun _ => 0)) _ = _
  rw [show ((w.toNat : Nat) : Int) = w by omega]
  rfl
/-- all but the page tried and the rows of numbers -/
def SameN (M M' : Mem) : Prop := (∀ q : Nat, q ≠ 1 → q ≠ 7 → q ≠ 8 → M' q = M q) ∧ ∀ j : Int, j < 188 → M' 1 j = M 1 j
theorem SameN.rf {M : Mem} : SameN M M := ⟨fun _ _ _ _ => rfl, fun _ _ => rfl⟩
theorem SameN.page {M M' : Mem} (h : SameN M M') {p : Int} (hp : p + 47 ≤ 188) : pg M' p = pg M p := pg_eq (congrFun (h.1 0 (by decide) (by decide) (by decide)) 1) (fun j _ _ => h.2 _ (by omega))
theorem SameN.go {M M1 M2 : Mem} (h : SameN M M1) (h2 : SameS M1 M2 188) : SameN M M2 := ⟨fun q a b c => (h2.1 q a).trans (h.1 q a b c), fun j hj => (h2.2 j (by omega)).trans (h.2 j hj)⟩
theorem SameN.num {M M1 M2 : Mem} {k : Nat} (hk : k = 7 ∨ k = 8) (h : SameN M M1) (h2 : ∀ q : Nat, q ≠ k → M2 q = M1 q) : SameN M M2 := ⟨fun q a b c => (h2 q (by omega)).trans (h.1 q a b c), fun j hj => by rw [h2 1 (by omega)]; exact h.2 j hj⟩
