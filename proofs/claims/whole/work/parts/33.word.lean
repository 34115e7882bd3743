/-! the words of the two constants -/
def partP (t : Int → Int) (len st nx : Int) (i : Nat) (a b : Int) : Prop := b - a = nx - st ∧ 0 ≤ a ∧ b ≤ lnS i ∧ ∀ j, a ≤ j → j < b → chS i j = byteF t len (st + j - a)
def bnds (i : Nat) : List (Int × Int) := if i = 0 then [(0, 5), (6, 10), (11, 16), (17, 22), (23, 26), (27, 31), (32, 37), (38, 42), (43, 48)] else [(0, 3), (4, 8), (9, 15), (16, 20), (21, 28)]
noncomputable def firstW (t : Int → Int) (len st nx : Int) (i : Nat) : Int → List (Int × Int) → Int
  | _, [] => -1
  | n, w :: r => @ite Int (partP t len st nx i w.1 w.2) (Classical.propDecidable _) n (firstW t len st nx i (n + 1) r)
noncomputable def wordF (t : Int → Int) (len st nx k : Int) (i : Nat) : Int := if k = 1 then firstW t len st nx i 0 (bnds i) else -1
def rstW (i : Nat) (a : Int) : List (Int × Int) := (bnds i).filter (fun w => decide (a ≤ w.2))
def frW (i : Nat) : Nat → Int
  | 0 => 0
  | n + 1 => if (n : Int) = lnS i ∨ chS i n = 32 then (n : Int) + 1 else frW i n
theorem rstW_all : ∀ i : Fin 2, ∀ n : Fin 49, ((n.val : Int) = lnS i.val ∨ ((n.val : Int) < lnS i.val ∧ chS i.val n.val = 32) → rstW i.val n.val = (frW i.val n.val, (n.val : Int)) :: rstW i.val ((n.val : Int) + 1)) ∧ ((n.val : Int) < lnS i.val ∧ chS i.val n.val ≠ 32 → rstW i.val n.val = rstW i.val ((n.val : Int) + 1)) := by decide +kernel
theorem rstW_end : ∀ i : Fin 2, rstW i.val (lnS i.val + 1) = [] := by decide +kernel
theorem rstW_0 {i : Nat} (hi : i < 2) : rstW i 0 = bnds i := by
  rcases (show i = 0 ∨ i = 1 by omega) with rfl | rfl <;> decide
theorem frW_le (i : Nat) : ∀ n : Nat, 0 ≤ frW i n ∧ frW i n ≤ n
  | 0 => ⟨Int.le_refl 0, Int.le_refl 0⟩
  | n + 1 => by
    have := frW_le i n
    rw [frW]
    split <;> omega
theorem rstW_sep {i : Nat} (hi : i < 2) {a : Int} (h0 : 0 ≤ a) (h1 : a ≤ lnS i) (h : a = lnS i ∨ chS i a = 32) : rstW i a = (frW i a.toNat, a) :: rstW i (a + 1) := by
  have hl := lnS_rng hi
  have := (rstW_all ⟨i, hi⟩ ⟨a.toNat, by omega⟩).1
  have e : ((a.toNat : Nat) : Int) = a := by omega
  simp only [e] at this
  exact this (by rcases h with h | h; exact Or.inl h; by_cases q : a = lnS i; exact Or.inl q; exact Or.inr ⟨by omega, h⟩)
theorem rstW_non {i : Nat} (hi : i < 2) {a : Int} (h0 : 0 ≤ a) (h1 : a < lnS i) (h : chS i a ≠ 32) : rstW i a = rstW i (a + 1) := by
  have hl := lnS_rng hi
  have := (rstW_all ⟨i, hi⟩ ⟨a.toNat, by omega⟩).2
  have e : ((a.toNat : Nat) : Int) = a := by omega
  simp only [e] at this
  exact this ⟨h1, h⟩
theorem frW_sep {i : Nat} {a : Int} (h0 : 0 ≤ a) (h : a = lnS i ∨ chS i a = 32) : frW i (a + 1).toNat = a + 1 := by
  rw [show (a + 1).toNat = a.toNat + 1 by omega, frW]
  have e : ((a.toNat : Nat) : Int) = a := by omega
  rw [e, if_pos h]
theorem frW_non {i : Nat} {a : Int} (h0 : 0 ≤ a) (h : ¬ (a = lnS i ∨ chS i a = 32)) : frW i (a + 1).toNat = frW i a.toNat := by
  rw [show (a + 1).toNat = a.toNat + 1 by omega, frW]
  have e : ((a.toNat : Nat) : Int) = a := by omega
  rw [e, if_neg h]
theorem firstW_hit {t : Int → Int} {len st nx : Int} {i : Nat} {n a b : Int} {r : List (Int × Int)} (h : partP t len st nx i a b) : firstW t len st nx i n ((a, b) :: r) = n := by rw [firstW, if_pos h]
theorem firstW_miss {t : Int → Int} {len st nx : Int} {i : Nat} {n a b : Int} {r : List (Int × Int)} (h : ¬ partP t len st nx i a b) : firstW t len st nx i n ((a, b) :: r) = firstW t len st nx i (n + 1) r := by rw [firstW, if_neg h]
abbrev P_X8_isPartOf (i : Nat) (a : Int) (b : Int) (M : Mem) : Option Value → Mem → Prop := oI (fun zz MM => BP (partP (tb M) (M 18 1) (M 18 4) (M 18 2) i a b) zz ∧ MM = M)
set_option maxRecDepth 100000 in
set_option maxHeartbeats 4000000 in
theorem c_X8_isPartOf {l : Launch} {G : va_G} {ad : Nat → Nat} {CA : Nat → ClassId} {nt : Nat} {adK adV : Nat → Nat} (hnt : 6 ≤ nt) (i : Nat) (hi2 : i < 2) (a : Int) (b : Int) (hab : 0 ≤ a ∧ a ≤ b ∧ b ≤ 49) (M : Mem) (hTp : 0 ≤ M 18 1 ∧ M 18 1 ≤ 320) (hst : 0 ≤ M 18 4 ∧ M 18 4 ≤ M 18 2 ∧ M 18 2 ≤ 321) : MtE l yX8_isPartOf cX8_isPartOf 5 (some .boolean) 4 85 G ad CA nt LyK adK adV [.ref (ad 18), .ref (adK i), .int (iN a), .int (iN b)] M (P_X8_isPartOf i a b M) := by
  refine MtE.of (by decide) (Nat.le_of_ble_eq_true rfl) (fun p e s m args below meth c hx hb hr hml hts hown hlocks hnm hE hW ls hl => ?_)
  have hl : lv_has ls 5 [(0, .ref (ad 18)), (1, .ref (adK i)), (2, .int (iN a)), (3, .int (iN b))] := hl
  have hnt4 : 4 ≤ nt := by omega
  obtain ⟨H, hH⟩ : ∃ z, z = s.heap := ⟨_, rfl⟩
  obtain ⟨locs, hlo⟩ : ∃ z : List Loc, z = [] := ⟨_, rfl⟩
  rw [← hH, ← hlo] at hW ⊢
  have hln := lnS_rng hi2
  refine lv_iload_n hx hb dX8_isPartOf_0 rfl (lv_at hl 3 rfl) ?_
  refine lv_iload_n hx hb dX8_isPartOf_1 rfl (lv_at hl 2 rfl) ?_
  refine rw_isub hx hb dX8_isPartOf_2 ?_
  refine lv_aload_n hx hb dX8_isPartOf_3 rfl (lv_at hl 0 rfl) ?_
  refine rw_getI hx hb hts hown hW 18 lk_18 2 2 rfl rfl fX8_19 dX8_isPartOf_4 (v := (M 18 2)) rfl ?_
  refine lv_aload_n hx hb dX8_isPartOf_7 rfl (lv_at hl 0 rfl) ?_
  refine rw_getI hx hb hts hown hW 18 lk_18 4 4 rfl rfl fX8_26 dX8_isPartOf_8 (v := (M 18 4)) rfl ?_
  refine rw_isub hx hb dX8_isPartOf_11 ?_
  refine rw_icmp_ne (tgt := 27) hx hb dX8_isPartOf_12 (by decide) (by omega) (by omega) (fun c_12 => ?_) (fun c_12 => ?_)
  · refine rw_iconst hx hb dX8_isPartOf_27 ?_
    refine rw_zret hx hb hr hlocks hW dX8_isPartOf_28 (Or.inl rfl) (⟨0, rfl, ?_⟩)
    exact ⟨Or.inr ⟨rfl, fun z => by have z1 := z.1; have z2 := z.2.1; have z3 := z.2.2.1; omega⟩, rfl⟩
  · refine lv_iload_n hx hb dX8_isPartOf_15 rfl (lv_at hl 2 rfl) ?_
    refine rw_if_lt (tgt := 27) hx hb dX8_isPartOf_16 (by decide) (by omega) (fun c_16 => ?_) (fun c_16 => ?_)
    · refine rw_iconst hx hb dX8_isPartOf_27 ?_
      refine rw_zret hx hb hr hlocks hW dX8_isPartOf_28 (Or.inl rfl) (⟨0, rfl, ?_⟩)
      exact ⟨Or.inr ⟨rfl, fun z => by have z1 := z.1; have z2 := z.2.1; have z3 := z.2.2.1; omega⟩, rfl⟩
    · refine lv_iload_n hx hb dX8_isPartOf_19 rfl (lv_at hl 3 rfl) ?_
      refine lv_aload_n hx hb dX8_isPartOf_20 rfl (lv_at hl 1 rfl) ?_
      refine rw_callVE hx hb hml hts hown hW hE ⟨Nat.le_refl 0, Nat.le_refl 0⟩ [] (hE.recv (by omega) hW) (c_J0_length_8abf5 (l := l) (G := G) (ad := ad) (CA := CA) (nt := nt) (adK := adK) (adV := adV) i (by omega) M) kX8_38 rfl ⟨Nat.le_of_ble_eq_true rfl, Nat.le_of_ble_eq_true rfl⟩ hl.1 rfl (Nat.le_of_ble_eq_true rfl) dX8_isPartOf_21 (fun v1 M2 H locs hp3 hW => ?_)
      obtain ⟨_, rfl, rfl, hp3⟩ := hp3
      rw [hp3] at hW
      refine rw_stk (st' := [.int (iN (lnS i)), .int (iN b)]) rfl ?_
      refine rw_icmp_le (tgt := 29) hx hb dX8_isPartOf_24 (by decide) (by omega) (by omega) (fun c_24 => ?_) (fun c_24 => ?_)
      · refine lv_iload_n hx hb dX8_isPartOf_29 rfl (lv_at hl 2 rfl) ?_
        refine lv_istore (lv' := [(4, .int (iN a)), (0, .ref (ad 18)), (1, .ref (adK i)), (2, .int (iN a)), (3, .int (iN b))]) hx hb dX8_isPartOf_30 hl (by decide) rfl (fun ls hl => ?_)
        have hC_32 : ∀ N : Nat, ∀ (j : Int) (H : Heap) (locs : List Loc) (ls : Array Slot), (b - j).toNat < N → (a ≤ j ∧ j ≤ b) → (∀ k, a ≤ k → k < j → chS i k = byteF (tb M) (M 18 1) (M 18 4 + k - a)) → Wo G ad CA nt LyK (wA ad LyK) s M H locs → lv_has ls 5 [(0, .ref (ad 18)), (1, .ref (adK i)), (2, .int (iN a)), (3, .int (iN b)), (4, .int (iN j))] → Wf l 4 85 G ad CA nt LyK (P_X8_isPartOf i a b M) p e s m args below meth c H locs (F0 m 32 ls []) := by
          intro N
          induction N with
          | zero => intro j H locs ls hN; exact absurd hN (Nat.not_lt_zero _)
          | succ N ih =>
            intro j H locs ls hN hj heq hW hl
            refine lv_iload hx hb dX8_isPartOf_32 (lv_at hl 4 rfl) ?_
            refine lv_iload_n hx hb dX8_isPartOf_34 rfl (lv_at hl 3 rfl) ?_
            refine rw_icmp_ge (tgt := 68) hx hb dX8_isPartOf_35 (by decide) (by omega) (by omega) (fun c_35 => ?_) (fun c_35 => ?_)
            · refine rw_iconst hx hb dX8_isPartOf_68 ?_
              refine rw_zret hx hb hr hlocks hW dX8_isPartOf_69 (Or.inr rfl) (⟨1, rfl, ?_⟩)
              exact ⟨Or.inl ⟨rfl, by omega, by omega, by omega, fun q z1 z2 => heq q z1 (by omega)⟩, rfl⟩
            · refine lv_aload_n hx hb dX8_isPartOf_38 rfl (lv_at hl 1 rfl) ?_
              refine lv_iload hx hb dX8_isPartOf_39 (lv_at hl 4 rfl) ?_
              refine rw_callVE hx hb hml hts hown hW hE ⟨Nat.le_refl 0, Nat.le_refl 0⟩ [.int (iN j)] (hE.recv (by omega) hW) (c_J0_charAt_5068e (l := l) (G := G) (ad := ad) (CA := CA) (nt := nt) (adK := adK) (adV := adV) i (by omega) j (by omega) M) kX8_43 rfl ⟨Nat.le_of_ble_eq_true rfl, Nat.le_of_ble_eq_true rfl⟩ hl.1 rfl (Nat.le_of_ble_eq_true rfl) dX8_isPartOf_41 (fun v4 M5 H locs hp6 hW => ?_)
              obtain ⟨_, rfl, rfl, hp6⟩ := hp6
              rw [hp6] at hW
              refine rw_stk (st' := [.int (iN (chS i j))]) rfl ?_
              refine lv_aload_n hx hb dX8_isPartOf_44 rfl (lv_at hl 0 rfl) ?_
              refine lv_aload_n hx hb dX8_isPartOf_45 rfl (lv_at hl 0 rfl) ?_
              refine rw_getI hx hb hts hown hW 18 lk_18 4 4 rfl rfl fX8_26 dX8_isPartOf_46 (v := (M 18 4)) rfl ?_
              refine lv_iload hx hb dX8_isPartOf_49 (lv_at hl 4 rfl) ?_
              refine rw_iadd hx hb dX8_isPartOf_51 ?_
              refine lv_iload_n hx hb dX8_isPartOf_52 rfl (lv_at hl 2 rfl) ?_
              refine rw_isub hx hb dX8_isPartOf_53 ?_
              refine rw_callV hx hb hml hts hown hW ⟨Nat.le_refl 0, Nat.le_refl 0⟩ [.int (iN (((M 18 4) + j) - a))] 18 lk_18 rfl (c_X8_byteAt (l := l) (G := G) (ad := ad) (CA := CA) (nt := nt) (by omega) (((M 18 4) + j) - a) (by omega) M (by omega)) kX8_22 rfl ⟨Nat.le_of_ble_eq_true rfl, Nat.le_of_ble_eq_true rfl⟩ hl.1 rfl (Nat.le_of_ble_eq_true rfl) dX8_isPartOf_54 (fun v7 M8 H locs hp9 hW => ?_)
              obtain ⟨_, rfl, rfl, hp9⟩ := hp9
              rw [hp9] at hW
              refine rw_stk (st' := [.int (iN (byteF (tb M) (M 18 1) (((M 18 4) + j) - a))), .int (iN (chS i j))]) rfl ?_
              have hch := chS_rng hi2 (k := j) (by omega) (by omega)
              have hbr := byteF_rng M (M 18 1) (M 18 4 + j - a)
              refine rw_icmp_eq (tgt := 62) hx hb dX8_isPartOf_57 (by decide) (by omega) (by omega) (fun c_57 => ?_) (fun c_57 => ?_)
              · refine rw_iinc (lv' := [(4, .int (iN (j + 1))), (0, .ref (ad 18)), (1, .ref (adK i)), (2, .int (iN a)), (3, .int (iN b))]) hx hb dX8_isPartOf_62 hl (k := 4) rfl (by decide) rfl (fun ls hl => ?_)
                refine lv_goto (tgt := 32) hx hb dX8_isPartOf_65 (by decide) ?_
                exact ih (j + 1) H locs ls (by omega) (by omega) (fun k q1 q2 => by by_cases q : k = j; subst q; exact c_57; exact heq k q1 (by omega)) hW (lv_sub hl [1, 2, 3, 4, 0] rfl)
              · refine rw_iconst hx hb dX8_isPartOf_60 ?_
                refine rw_zret hx hb hr hlocks hW dX8_isPartOf_61 (Or.inl rfl) (⟨0, rfl, ?_⟩)
                exact ⟨Or.inr ⟨rfl, fun z => c_57 (z.2.2.2 j hj.1 (by omega))⟩, rfl⟩
        exact hC_32 _ a H locs ls (Nat.lt_succ_self _) (by omega) (fun k q1 q2 => absurd q2 (by omega)) hW (lv_sub hl [1, 2, 3, 4, 0] rfl)
      · refine rw_iconst hx hb dX8_isPartOf_27 ?_
        refine rw_zret hx hb hr hlocks hW dX8_isPartOf_28 (Or.inl rfl) (⟨0, rfl, ?_⟩)
        exact ⟨Or.inr ⟨rfl, fun z => by have z1 := z.1; have z2 := z.2.1; have z3 := z.2.2.1; omega⟩, rfl⟩
abbrev P_X8_wordIn (i : Nat) (M : Mem) : Option Value → Mem → Prop := oI (fun zz MM => zz = wordF (tb M) (M 18 1) (M 18 4) (M 18 2) (M 18 3) i ∧ MM = M)
set_option maxRecDepth 100000 in
set_option maxHeartbeats 4000000 in
theorem c_X8_wordIn {l : Launch} {G : va_G} {ad : Nat → Nat} {CA : Nat → ClassId} {nt : Nat} {adK adV : Nat → Nat} (hnt : 6 ≤ nt) (i : Nat) (hi2 : i < 2) (M : Mem) (hTp : 0 ≤ M 18 1 ∧ M 18 1 ≤ 320) (hst : 0 ≤ M 18 4 ∧ M 18 4 ≤ M 18 2 ∧ M 18 2 ≤ 321) (hkt : 0 ≤ M 18 3 ∧ M 18 3 ≤ 4) : MtE l yX8_wordIn cX8_wordIn 5 (some .int) 5 109 G ad CA nt LyK adK adV [.ref (ad 18), .ref (adK i)] M (P_X8_wordIn i M) := by
  refine MtE.of (by decide) (Nat.le_of_ble_eq_true rfl) (fun p e s m args below meth c hx hb hr hml hts hown hlocks hnm hE hW ls hl => ?_)
  have hl : lv_has ls 5 [(0, .ref (ad 18)), (1, .ref (adK i))] := hl
  have hnt4 : 4 ≤ nt := by omega
  obtain ⟨H, hH⟩ : ∃ z, z = s.heap := ⟨_, rfl⟩
  obtain ⟨locs, hlo⟩ : ∃ z : List Loc, z = [] := ⟨_, rfl⟩
  rw [← hH, ← hlo] at hW ⊢
  have hln := lnS_rng hi2
  refine rw_iconst hx hb dX8_wordIn_0 ?_
  refine lv_istore_n (lv' := [(2, .int (iN 0)), (0, .ref (ad 18)), (1, .ref (adK i))]) hx hb dX8_wordIn_1 rfl hl (by decide) rfl (fun ls hl => ?_)
  refine rw_iconst hx hb dX8_wordIn_2 ?_
  refine lv_istore_n (lv' := [(3, .int (iN 0)), (2, .int (iN 0)), (0, .ref (ad 18)), (1, .ref (adK i))]) hx hb dX8_wordIn_3 rfl hl (by decide) rfl (fun ls hl => ?_)
  refine rw_iconst hx hb dX8_wordIn_4 ?_
  refine lv_istore (lv' := [(4, .int (iN 0)), (3, .int (iN 0)), (2, .int (iN 0)), (0, .ref (ad 18)), (1, .ref (adK i))]) hx hb dX8_wordIn_5 hl (by decide) rfl (fun ls hl => ?_)
  have hC_7 : ∀ N : Nat, ∀ (j : Int) (w : Int) (f : Int) (H : Heap) (locs : List Loc) (ls : Array Slot), (lnS i + 1 - j).toNat < N → (0 ≤ j ∧ j ≤ lnS i + 1 ∧ 0 ≤ w ∧ w ≤ j) → (f = frW i j.toNat) → (M 18 3 = 1 → firstW (tb M) (M 18 1) (M 18 4) (M 18 2) i 0 (bnds i) = firstW (tb M) (M 18 1) (M 18 4) (M 18 2) i w (rstW i j)) → Wo G ad CA nt LyK (wA ad LyK) s M H locs → lv_has ls 5 [(0, .ref (ad 18)), (1, .ref (adK i)), (2, .int (iN w)), (3, .int (iN f)), (4, .int (iN j))] → Wf l 5 109 G ad CA nt LyK (P_X8_wordIn i M) p e s m args below meth c H locs (F0 m 7 ls []) := by
    intro N
    induction N with
    | zero => intro j w f H locs ls hN; exact absurd hN (Nat.not_lt_zero _)
    | succ N ih =>
      intro j w f H locs ls hN hj hfr hf hW hl
      refine lv_iload hx hb dX8_wordIn_7 (lv_at hl 4 rfl) ?_
      refine lv_aload_n hx hb dX8_wordIn_9 rfl (lv_at hl 1 rfl) ?_
      refine rw_callVE hx hb hml hts hown hW hE ⟨Nat.le_refl 0, Nat.le_refl 0⟩ [] (hE.recv (by omega) hW) (c_J0_length_8abf5 (l := l) (G := G) (ad := ad) (CA := CA) (nt := nt) (adK := adK) (adV := adV) i (by omega) M) kX8_38 rfl ⟨Nat.le_of_ble_eq_true rfl, Nat.le_of_ble_eq_true rfl⟩ hl.1 rfl (Nat.le_of_ble_eq_true rfl) dX8_wordIn_10 (fun v1 M2 H locs hp3 hW => ?_)
      obtain ⟨_, rfl, rfl, hp3⟩ := hp3
      rw [hp3] at hW
      refine rw_stk (st' := [.int (iN (lnS i)), .int (iN j)]) rfl ?_
      refine rw_icmp_gt (tgt := 71) hx hb dX8_wordIn_13 (by decide) (by omega) (by omega) (fun c_13 => ?_) (fun c_13 => ?_)
      · refine rw_iconst hx hb dX8_wordIn_71 ?_
        refine rw_iret hx hb hr hlocks hW dX8_wordIn_72 (⟨(-1), rfl, ?_⟩)
        exact ⟨by unfold wordF; split; (rename_i q; rw [hf q, show j = lnS i + 1 by omega, rstW_end ⟨i, hi2⟩, firstW]); rfl, rfl⟩
      · refine lv_aload_n hx hb dX8_wordIn_16 rfl (lv_at hl 0 rfl) ?_
        refine rw_getI hx hb hts hown hW 18 lk_18 3 3 rfl rfl fX8_32 dX8_wordIn_17 (v := (M 18 3)) rfl ?_
        refine rw_iconst hx hb dX8_wordIn_20 ?_
        refine rw_icmp_ne (tgt := 71) hx hb dX8_wordIn_21 (by decide) (by omega) (by decide) (fun c_21 => ?_) (fun c_21 => ?_)
        · refine rw_iconst hx hb dX8_wordIn_71 ?_
          refine rw_iret hx hb hr hlocks hW dX8_wordIn_72 (⟨(-1), rfl, ?_⟩)
          exact ⟨by rw [wordF, if_neg c_21], rfl⟩
        · refine lv_iload hx hb dX8_wordIn_24 (lv_at hl 4 rfl) ?_
          refine lv_aload_n hx hb dX8_wordIn_26 rfl (lv_at hl 1 rfl) ?_
          refine rw_callVE hx hb hml hts hown hW hE ⟨Nat.le_refl 0, Nat.le_refl 0⟩ [] (hE.recv (by omega) hW) (c_J0_length_8abf5 (l := l) (G := G) (ad := ad) (CA := CA) (nt := nt) (adK := adK) (adV := adV) i (by omega) M) kX8_38 rfl ⟨Nat.le_of_ble_eq_true rfl, Nat.le_of_ble_eq_true rfl⟩ hl.1 rfl (Nat.le_of_ble_eq_true rfl) dX8_wordIn_27 (fun v4 M5 H locs hp6 hW => ?_)
          obtain ⟨_, rfl, rfl, hp6⟩ := hp6
          rw [hp6] at hW
          refine rw_stk (st' := [.int (iN (lnS i)), .int (iN j)]) rfl ?_
          refine rw_icmp_eq (tgt := 44) hx hb dX8_wordIn_30 (by decide) (by omega) (by omega) (fun c_30 => ?_) (fun c_30 => ?_)
          · have hsep : j = lnS i ∨ chS i j = 32 := Or.inl c_30
            have hfl := frW_le i j.toNat
            refine lv_aload_n hx hb dX8_wordIn_44 rfl (lv_at hl 0 rfl) ?_
            refine lv_aload_n hx hb dX8_wordIn_45 rfl (lv_at hl 1 rfl) ?_
            refine lv_iload_n hx hb dX8_wordIn_46 rfl (lv_at hl 3 rfl) ?_
            refine lv_iload hx hb dX8_wordIn_47 (lv_at hl 4 rfl) ?_
            refine rw_callVE hx hb hml hts hown hW hE ⟨Nat.le_refl 0, Nat.le_refl 0⟩ [.ref (adK i), .int (iN f), .int (iN j)] (va_recv hW.K hW.P rfl (hW.cell lk_18)) (c_X8_isPartOf (l := l) (G := G) (ad := ad) (CA := CA) (nt := nt) (adK := adK) (adV := adV) (by omega) i (by omega) f j (by omega) M (by omega) (by omega)) kX8_47 rfl ⟨Nat.le_of_ble_eq_true rfl, Nat.le_of_ble_eq_true rfl⟩ hl.1 rfl (Nat.le_of_ble_eq_true rfl) dX8_wordIn_49 (fun v7 M8 H locs hp9 hW => ?_)
            obtain ⟨a10, rfl, hp9, hp9m⟩ := hp9
            rw [hp9m] at hW
            rcases hp9 with ⟨rfl, hp9⟩ | ⟨rfl, hp9⟩
            · have hpm := hp9
              refine rw_stk (st' := [.int (iN 1)]) rfl ?_
              refine rw_if_eq (tgt := 57) hx hb dX8_wordIn_52 (by decide) (by decide) (fun c => absurd c (by decide)) (fun _ => ?_)
              refine lv_iload_n hx hb dX8_wordIn_55 rfl (lv_at hl 2 rfl) ?_
              refine rw_iret hx hb hr hlocks hW dX8_wordIn_56 (⟨w, rfl, ?_⟩)
              exact ⟨by rw [wordF, if_pos c_21, hf c_21, rstW_sep hi2 (by omega) (by omega) hsep, firstW_hit (by rw [← hfr]; exact hpm)], rfl⟩
            · have hpm := hp9
              refine rw_stk (st' := [.int (iN 0)]) rfl ?_
              refine rw_if_eq (tgt := 57) hx hb dX8_wordIn_52 (by decide) (by decide) (fun _ => ?_) (fun c => absurd (by decide) c)
              refine rw_iinc (lv' := [(2, .int (iN (w + 1))), (0, .ref (ad 18)), (1, .ref (adK i)), (3, .int (iN f)), (4, .int (iN j))]) hx hb dX8_wordIn_57 hl (k := 2) rfl (by decide) rfl (fun ls hl => ?_)
              refine lv_iload hx hb dX8_wordIn_60 (lv_at hl 4 rfl) ?_
              refine rw_iconst hx hb dX8_wordIn_62 ?_
              refine rw_iadd hx hb dX8_wordIn_63 ?_
              refine lv_istore_n (lv' := [(3, .int (iN (j + 1))), (2, .int (iN (w + 1))), (0, .ref (ad 18)), (1, .ref (adK i)), (4, .int (iN j))]) hx hb dX8_wordIn_64 rfl hl (by decide) rfl (fun ls hl => ?_)
              refine rw_iinc (lv' := [(4, .int (iN (j + 1))), (3, .int (iN (j + 1))), (2, .int (iN (w + 1))), (0, .ref (ad 18)), (1, .ref (adK i))]) hx hb dX8_wordIn_65 hl (k := 4) rfl (by decide) rfl (fun ls hl => ?_)
              refine lv_goto (tgt := 7) hx hb dX8_wordIn_68 (by decide) ?_
              exact ih (j + 1) (w + 1) (j + 1) H locs ls (by omega) (by omega) (frW_sep hj.1 hsep).symm (fun q => by rw [hf q, rstW_sep hi2 (by omega) (by omega) hsep, firstW_miss (by rw [← hfr]; exact hpm)]) hW (lv_sub hl [3, 4, 2, 1, 0] rfl)
          · refine lv_aload_n hx hb dX8_wordIn_33 rfl (lv_at hl 1 rfl) ?_
            refine lv_iload hx hb dX8_wordIn_34 (lv_at hl 4 rfl) ?_
            refine rw_callVE hx hb hml hts hown hW hE ⟨Nat.le_refl 0, Nat.le_refl 0⟩ [.int (iN j)] (hE.recv (by omega) hW) (c_J0_charAt_5068e (l := l) (G := G) (ad := ad) (CA := CA) (nt := nt) (adK := adK) (adV := adV) i (by omega) j (by omega) M) kX8_43 rfl ⟨Nat.le_of_ble_eq_true rfl, Nat.le_of_ble_eq_true rfl⟩ hl.1 rfl (Nat.le_of_ble_eq_true rfl) dX8_wordIn_36 (fun v11 M12 H locs hp13 hW => ?_)
            obtain ⟨_, rfl, rfl, hp13⟩ := hp13
            rw [hp13] at hW
            refine rw_stk (st' := [.int (iN (chS i j))]) rfl ?_
            refine rw_bipush hx hb dX8_wordIn_39 (by decide) ?_
            have hch := chS_rng hi2 (k := j) (by omega) (by omega)
            refine rw_icmp_ne (tgt := 65) hx hb dX8_wordIn_41 (by decide) (by omega) (by decide) (fun c_41 => ?_) (fun c_41 => ?_)
            · refine rw_iinc (lv' := [(4, .int (iN (j + 1))), (0, .ref (ad 18)), (1, .ref (adK i)), (2, .int (iN w)), (3, .int (iN f))]) hx hb dX8_wordIn_65 hl (k := 4) rfl (by decide) rfl (fun ls hl => ?_)
              refine lv_goto (tgt := 7) hx hb dX8_wordIn_68 (by decide) ?_
              exact ih (j + 1) w f H locs ls (by omega) (by omega) (by rw [hfr]; exact (frW_non hj.1 (by omega)).symm) (fun q => by rw [hf q, rstW_non hi2 hj.1 (by omega) (by omega)]) hW (lv_sub hl [1, 2, 3, 4, 0] rfl)
            · have hsep : j = lnS i ∨ chS i j = 32 := Or.inr (by omega)
              have hfl := frW_le i j.toNat
              refine lv_aload_n hx hb dX8_wordIn_44 rfl (lv_at hl 0 rfl) ?_
              refine lv_aload_n hx hb dX8_wordIn_45 rfl (lv_at hl 1 rfl) ?_
              refine lv_iload_n hx hb dX8_wordIn_46 rfl (lv_at hl 3 rfl) ?_
              refine lv_iload hx hb dX8_wordIn_47 (lv_at hl 4 rfl) ?_
              refine rw_callVE hx hb hml hts hown hW hE ⟨Nat.le_refl 0, Nat.le_refl 0⟩ [.ref (adK i), .int (iN f), .int (iN j)] (va_recv hW.K hW.P rfl (hW.cell lk_18)) (c_X8_isPartOf (l := l) (G := G) (ad := ad) (CA := CA) (nt := nt) (adK := adK) (adV := adV) (by omega) i (by omega) f j (by omega) M (by omega) (by omega)) kX8_47 rfl ⟨Nat.le_of_ble_eq_true rfl, Nat.le_of_ble_eq_true rfl⟩ hl.1 rfl (Nat.le_of_ble_eq_true rfl) dX8_wordIn_49 (fun v14 M15 H locs hp16 hW => ?_)
              obtain ⟨a17, rfl, hp16, hp16m⟩ := hp16
              rw [hp16m] at hW
              rcases hp16 with ⟨rfl, hp16⟩ | ⟨rfl, hp16⟩
              · have hpm := hp16
                refine rw_stk (st' := [.int (iN 1)]) rfl ?_
                refine rw_if_eq (tgt := 57) hx hb dX8_wordIn_52 (by decide) (by decide) (fun c => absurd c (by decide)) (fun _ => ?_)
                refine lv_iload_n hx hb dX8_wordIn_55 rfl (lv_at hl 2 rfl) ?_
                refine rw_iret hx hb hr hlocks hW dX8_wordIn_56 (⟨w, rfl, ?_⟩)
                exact ⟨by rw [wordF, if_pos c_21, hf c_21, rstW_sep hi2 (by omega) (by omega) hsep, firstW_hit (by rw [← hfr]; exact hpm)], rfl⟩
              · have hpm := hp16
                refine rw_stk (st' := [.int (iN 0)]) rfl ?_
                refine rw_if_eq (tgt := 57) hx hb dX8_wordIn_52 (by decide) (by decide) (fun _ => ?_) (fun c => absurd (by decide) c)
                refine rw_iinc (lv' := [(2, .int (iN (w + 1))), (0, .ref (ad 18)), (1, .ref (adK i)), (3, .int (iN f)), (4, .int (iN j))]) hx hb dX8_wordIn_57 hl (k := 2) rfl (by decide) rfl (fun ls hl => ?_)
                refine lv_iload hx hb dX8_wordIn_60 (lv_at hl 4 rfl) ?_
                refine rw_iconst hx hb dX8_wordIn_62 ?_
                refine rw_iadd hx hb dX8_wordIn_63 ?_
                refine lv_istore_n (lv' := [(3, .int (iN (j + 1))), (2, .int (iN (w + 1))), (0, .ref (ad 18)), (1, .ref (adK i)), (4, .int (iN j))]) hx hb dX8_wordIn_64 rfl hl (by decide) rfl (fun ls hl => ?_)
                refine rw_iinc (lv' := [(4, .int (iN (j + 1))), (3, .int (iN (j + 1))), (2, .int (iN (w + 1))), (0, .ref (ad 18)), (1, .ref (adK i))]) hx hb dX8_wordIn_65 hl (k := 4) rfl (by decide) rfl (fun ls hl => ?_)
                refine lv_goto (tgt := 7) hx hb dX8_wordIn_68 (by decide) ?_
                exact ih (j + 1) (w + 1) (j + 1) H locs ls (by omega) (by omega) (frW_sep hj.1 hsep).symm (fun q => by rw [hf q, rstW_sep hi2 (by omega) (by omega) hsep, firstW_miss (by rw [← hfr]; exact hpm)]) hW (lv_sub hl [3, 4, 2, 1, 0] rfl)
  exact hC_7 _ 0 0 0 H locs ls (Nat.lt_succ_self _) (by omega) rfl (fun _ => by rw [rstW_0 hi2]) hW (lv_sub hl [3, 4, 2, 1, 0] rfl)
