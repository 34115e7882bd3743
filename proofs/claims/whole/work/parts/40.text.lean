/-! a text: line after line -/
noncomputable def stepX (t : Int → Int) (len : Int) (x : PX) : PX := signX t len (bodyX t len (nextX t len x))
noncomputable def runX (t : Int → Int) (len : Int) : Nat → Int → PX → Int × PX
  | 0, n, x => (n, x)
  | k + 1, n, x => match nextX t len x with
    | .inl a => (n, .inl a)
    | .inr g => if tokK t len (glp g) = 0 then (n, .inr g) else match stepX t len x with
      | .inl a => (n, .inl a)
      | .inr g' => runX t len k (n + 1) (.inr g')
def takeP (M0 : Mem) (x : PX) (a : Int) (MM : Mem) : Prop := (a = 0 ∧ endX (tb M0) (M0 18 1) (nextX (tb M0) (M0 18 1) x) ∧ Rd M0 MM (nextX (tb M0) (M0 18 1) x)) ∨ (¬ endX (tb M0) (M0 18 1) (nextX (tb M0) (M0 18 1) x) ∧ Rd M0 MM (stepX (tb M0) (M0 18 1) x) ∧ BP (isOk (stepX (tb M0) (M0 18 1) x)) a)
theorem takeP.rng {M0 MM : Mem} {x : PX} {a : Int} (h : takeP M0 x a MM) : a = 0 ∨ a = 1 := by
  rcases h with h | ⟨_, _, h | h⟩
  · exact Or.inl h.1
  · exact Or.inr h.1
  · exact Or.inl h.1
theorem takeP.one {M0 MM : Mem} {x : PX} {a : Int} (h : takeP M0 x a MM) (h0 : a ≠ 0) : Rd M0 MM (stepX (tb M0) (M0 18 1) x) ∧ ∀ (k : Nat) (n : Int), runX (tb M0) (M0 18 1) (k + 1) n x = runX (tb M0) (M0 18 1) k (n + 1) (stepX (tb M0) (M0 18 1) x) := by
  rcases h with h | ⟨he, hr, hb⟩
  · exact absurd h.1 h0
  refine ⟨hr, fun k n => ?_⟩
  have ho : isOk (stepX (tb M0) (M0 18 1) x) := by
    rcases hb with q | q
    · exact q.2
    · exact absurd q.1 h0
  rw [runX]
  cases e : nextX (tb M0) (M0 18 1) x with
  | inl a => rw [e] at he; exact absurd trivial he
  | inr g =>
    rw [e] at he
    dsimp only
    rw [if_neg (show ¬ tokK (tb M0) (M0 18 1) (glp g) = 0 from he)]
    cases e2 : stepX (tb M0) (M0 18 1) x with
    | inl a => rw [e2] at ho; exact ho.elim
    | inr g' => rfl
theorem takeP.zero {M0 MM : Mem} {x : PX} {a : Int} (h : takeP M0 x a MM) (h0 : a = 0) : ∃ y, Rd M0 MM y ∧ ∀ (k : Nat) (n : Int), runX (tb M0) (M0 18 1) (k + 1) n x = (n, y) := by
  rcases h with ⟨_, he, hr⟩ | ⟨he, hr, hb⟩
  · refine ⟨_, hr, fun k n => ?_⟩
    rw [runX]
    cases e : nextX (tb M0) (M0 18 1) x with
    | inl a => rfl
    | inr g =>
      rw [e] at he
      dsimp only
      rw [if_pos (show tokK (tb M0) (M0 18 1) (glp g) = 0 from he)]
  · refine ⟨_, hr, fun k n => ?_⟩
    have ho : ¬ isOk (stepX (tb M0) (M0 18 1) x) := by
      rcases hb with q | q
      · omega
      · exact q.2
    rw [runX]
    cases e : nextX (tb M0) (M0 18 1) x with
    | inl a => rw [e] at he; exact absurd trivial he
    | inr g =>
      rw [e] at he
      dsimp only
      rw [if_neg (show ¬ tokK (tb M0) (M0 18 1) (glp g) = 0 from he)]
      cases e2 : stepX (tb M0) (M0 18 1) x with
      | inl a => rfl
      | inr g' => rw [e2] at ho; exact absurd trivial ho
/-- what a text answers, and what it leaves -/
def textP (M : Mem) (zz : Int) (MM : Mem) : Prop := match closeX (M 18 1) (runX (tb M) (M 18 1) 320 0 st0).2 with
  | .inl a => zz = -10 - a.2 ∧ MM 17 4 = a.1 ∧ 1 ≤ a.1 ∧ a.1 ≤ 5 ∧ MM 18 1 = 0 ∧ ∀ (q : Nat) (j : Int), ¬ ((q = 17 ∧ 3 ≤ j) ∨ (q = 18 ∧ 1 ≤ j) ∨ (20 ≤ q ∧ q ≤ 28)) → MM q j = M q j
  | .inr g => zz = (runX (tb M) (M 18 1) 320 0 st0).1 ∧ MM 17 4 = 0 ∧ MM 18 1 = 0 ∧ fld MM 1 = gpg g ∧ MM 207 2 = 0 ∧ MM 0 9 = 0 ∧ ∀ (q : Nat) (j : Int), ¬ ((q = 17 ∧ 3 ≤ j) ∨ (q = 18 ∧ 1 ≤ j) ∨ (20 ≤ q ∧ q ≤ 28) ∨ (1 ≤ q ∧ q ≤ 8) ∨ (q = 207 ∧ j = 2) ∨ (q = 0 ∧ j = 9)) → MM q j = M q j
theorem Rf.rng {M0 M : Mem} {x : PX} (h : Rf M0 M x) : 0 ≤ M 17 4 ∧ M 17 4 ≤ 5 ∧ (M 17 4 ≠ 0 → 0 ≤ M 17 5 ∧ M 17 5 ≤ 320) := by
  cases x with
  | inl a => obtain ⟨_, _, a1, a2, a3, a4, a5, a6⟩ := h; omega
  | inr g => obtain ⟨_, _, a1, a2⟩ := h; omega
theorem Rf.bad {M M2 : Mem} {x : PX} {i : Int} (h : Rf M M2 (closeX (M 18 1) x)) (h0 : M2 17 4 ≠ 0) (hr : runX (tb M) (M 18 1) 320 0 st0 = (i, x)) : textP M (-10 - M2 17 5) M2 := by
  unfold textP
  rw [hr]
  dsimp only
  cases e : closeX (M 18 1) x with
  | inl a => rw [e] at h; obtain ⟨c1, c2, a1, a2, a3, a4, a5, a6⟩ := h; exact ⟨by rw [a4], a1, a2, a3, c2, c1⟩
  | inr g => rw [e] at h; exact absurd h.2.2.1 h0
theorem Rf.good {M M2 MM : Mem} {x : PX} {i : Int} (h : Rf M M2 (closeX (M 18 1) x)) (h0 : M2 17 4 = 0) (hr : runX (tb M) (M 18 1) 320 0 st0 = (i, x)) (hf : fld MM 1 = fld M2 20) (h1 : MM 207 2 = 0) (h2 : MM 0 9 = 0) (hfr : ∀ (q : Nat) (j : Int), ¬ ((1 ≤ q ∧ q ≤ 8) ∨ (q = 207 ∧ j = 2) ∨ (q = 0 ∧ j = 9)) → MM q j = M2 q j) : textP M i MM := by
  unfold textP
  rw [hr]
  dsimp only
  cases e : closeX (M 18 1) x with
  | inl a => rw [e] at h; obtain ⟨c1, c2, a1, a2, a3, a4, a5, a6⟩ := h; omega
  | inr g =>
    rw [e] at h
    obtain ⟨c1, c2, a1, a2⟩ := h
    exact ⟨rfl, (hfr 17 4 (by omega)).trans a1, (hfr 18 1 (by omega)).trans c2, hf.trans a2, h1, h2, fun q j hq => (hfr q j (by omega)).trans (c1 q j (by omega))⟩
abbrev P_X10_text (M : Mem) : Option Value → Mem → Prop := oI (fun zz MM => textP M zz MM)
set_option maxRecDepth 100000 in
set_option maxHeartbeats 4000000 in
theorem c_X10_text {l : Launch} {G : va_G} {ad : Nat → Nat} {CA : Nat → ClassId} {nt : Nat} {adK adV : Nat → Nat} (hnt : 6 ≤ nt) (M : Mem) (hTp : 0 ≤ M 18 1 ∧ M 18 1 ≤ 320) : MtE l yX10_text cX10_text 2 (some .int) 8 177 G ad CA nt LyK adK adV [.ref (ad 0)] M (P_X10_text M) := by
  refine MtE.of (by decide) (Nat.le_of_ble_eq_true rfl) (fun p e s m args below meth c hx hb hr hml hts hown hlocks hnm hE hW ls hl => ?_)
  have hl : lv_has ls 2 [(0, .ref (ad 0))] := hl
  have hnt4 : 4 ≤ nt := by omega
  obtain ⟨H, hH⟩ : ∃ z, z = s.heap := ⟨_, rfl⟩
  obtain ⟨locs, hlo⟩ : ∃ z : List Loc, z = [] := ⟨_, rfl⟩
  rw [← hH, ← hlo] at hW ⊢
  have hC_32 : ∀ (i : Int) (Mx : Mem) (x : PX) (H : Heap) (locs : List Loc) (ls : Array Slot), (0 ≤ i ∧ i ≤ 320) → (Rn M Mx x) → (runX (tb M) (M 18 1) 320 0 st0 = (i, x)) → Wo G ad CA nt LyK (wA ad LyK) s Mx H locs → lv_has ls 2 [(0, .ref (ad 0)), (1, .int (iN i))] → Wf l 8 177 G ad CA nt LyK (P_X10_text M) p e s m args below meth c H locs (F0 m 32 ls []) := by
    intro i Mx x H locs ls hi hR hres hW hl
    refine lv_aload_n hx hb dX10_text_32 rfl (lv_at hl 0 rfl) ?_
    refine rw_getR hx hb hts hown hW 0 lk_0 2 17 rfl fX10_22 dX10_text_33 ?_
    refine rw_callV hx hb hml hts hown hW ⟨Nat.le_refl 0, Nat.le_refl 0⟩ [] 17 lk_17 rfl (c_X3_close (l := l) (G := G) (ad := ad) (CA := CA) (nt := nt) (by omega) M x Mx hR) kX10_92 rfl ⟨Nat.le_of_ble_eq_true rfl, Nat.le_of_ble_eq_true rfl⟩ hl.1 rfl (Nat.le_of_ble_eq_true rfl) dX10_text_36 (fun v1 M2 H locs hp3 hW => ?_)
    obtain ⟨rfl, hM2⟩ := hp3
    refine rw_stk (st' := []) rfl ?_
    have hRf := hM2
    have hrr := hRf.rng
    refine lv_aload_n hx hb dX10_text_39 rfl (lv_at hl 0 rfl) ?_
    refine rw_getR hx hb hts hown hW 0 lk_0 2 17 rfl fX10_22 dX10_text_40 ?_
    refine rw_getI hx hb hts hown hW 17 lk_17 4 4 rfl rfl fX10_95 dX10_text_43 (v := (M2 17 4)) rfl ?_
    refine rw_if_eq (tgt := 60) hx hb dX10_text_46 (by decide) (by omega) (fun c_46 => ?_) (fun c_46 => ?_)
    · refine lv_aload_n hx hb dX10_text_60 rfl (lv_at hl 0 rfl) ?_
      refine rw_getR hx hb hts hown hW 0 lk_0 0 1 rfl fX10_10 dX10_text_61 ?_
      refine lv_aload_n hx hb dX10_text_64 rfl (lv_at hl 0 rfl) ?_
      refine rw_getR hx hb hts hown hW 0 lk_0 2 17 rfl fX10_22 dX10_text_65 ?_
      refine rw_getR hx hb hts hown hW 17 lk_17 1 20 rfl fX10_101 dX10_text_68 ?_
      refine rw_callV hx hb hml hts hown hW ⟨Nat.le_refl 0, Nat.le_refl 0⟩ [.ref (ad 20)] 1 fk_1.1 rfl (c_X0_copyOf (l := l) (G := G) (ad := ad) (CA := CA) (nt := nt) (by omega) 1 fk_1 20 fk_20 (by omega) M2) kX10_104 rfl ⟨Nat.le_of_ble_eq_true rfl, Nat.le_of_ble_eq_true rfl⟩ hl.1 rfl (Nat.le_of_ble_eq_true rfl) dX10_text_71 (fun v4 M5 H locs hp6 hW => ?_)
      obtain ⟨rfl, hM5⟩ := hp6
      refine rw_stk (st' := []) rfl ?_
      refine lv_aload_n hx hb dX10_text_74 rfl (lv_at hl 0 rfl) ?_
      refine rw_getR hx hb hts hown hW 0 lk_0 6 207 rfl fX10_50 dX10_text_75 ?_
      refine rw_iconst hx hb dX10_text_78 ?_
      refine rw_putI hx hb hts hown hW 207 lk_207 2 2 rfl rfl qX10_108 (v := 0) dX10_text_79 (fun H locs hW => ?_)
      obtain ⟨M7, hM7⟩ : ∃ z, z = upd2 M5 207 2 0 := ⟨_, rfl⟩
      rw [← hM7] at hW
      refine lv_aload_n hx hb dX10_text_82 rfl (lv_at hl 0 rfl) ?_
      refine rw_iconst hx hb dX10_text_83 ?_
      refine rw_putI hx hb hts hown hW 0 lk_0 9 9 rfl rfl qX10_111 (v := 0) dX10_text_84 (fun H locs hW => ?_)
      obtain ⟨M8, hM8⟩ : ∃ z, z = upd2 M7 0 9 0 := ⟨_, rfl⟩
      rw [← hM8] at hW
      refine lv_iload_n hx hb dX10_text_87 rfl (lv_at hl 1 rfl) ?_
      refine rw_iret hx hb hr hlocks hW dX10_text_88 (⟨i, rfl, ?_⟩)
      exact hRf.good c_46 hres (by rw [show fld M8 1 = fld M5 1 from fld_eq8 (fun q z1 z2 => funext fun j => by rw [hM8, upd2_at, if_neg (by omega), hM7, upd2_at, if_neg (by omega)]), hM5.1]) (by rw [hM8, upd2_ne1 (by decide), hM7, upd2_eq]) (by rw [hM8, upd2_eq]) (fun q j hq => by rw [hM8, upd2_at, if_neg (by omega), hM7, upd2_at, if_neg (by omega), hM5.2 q (by omega)])
    · refine rw_bipush hx hb dX10_text_49 (by decide) ?_
      refine lv_aload_n hx hb dX10_text_51 rfl (lv_at hl 0 rfl) ?_
      refine rw_getR hx hb hts hown hW 0 lk_0 2 17 rfl fX10_22 dX10_text_52 ?_
      refine rw_getI hx hb hts hown hW 17 lk_17 5 5 rfl rfl fX10_98 dX10_text_55 (v := (M2 17 5)) rfl ?_
      refine rw_isub hx hb dX10_text_58 ?_
      refine rw_iret hx hb hr hlocks hW dX10_text_59 (⟨(-10) - (M2 17 5), rfl, ?_⟩)
      exact hRf.bad c_46 hres
  have hC_9 : ∀ N : Nat, ∀ (i : Int) (Mx : Mem) (x : PX) (H : Heap) (locs : List Loc) (ls : Array Slot), (320 - i).toNat < N → (0 ≤ i ∧ i ≤ 320) → (Rn M Mx x) → (runX (tb M) (M 18 1) (320 - i).toNat i x = runX (tb M) (M 18 1) 320 0 st0) → Wo G ad CA nt LyK (wA ad LyK) s Mx H locs → lv_has ls 2 [(0, .ref (ad 0)), (1, .int (iN i))] → Wf l 8 177 G ad CA nt LyK (P_X10_text M) p e s m args below meth c H locs (F0 m 9 ls []) := by
    intro N
    induction N with
    | zero => intro i Mx x H locs ls hN; exact absurd hN (Nat.not_lt_zero _)
    | succ N ih =>
      intro i Mx x H locs ls hN hi hR hrun hW hl
      refine lv_iload_n hx hb dX10_text_9 rfl (lv_at hl 1 rfl) ?_
      refine rw_sipush hx hb dX10_text_10 (by decide) ?_
      refine rw_icmp_ge (tgt := 32) hx hb dX10_text_13 (by decide) (by omega) (by decide) (fun c_13 => ?_) (fun c_13 => ?_)
      · exact hC_32 i Mx x H locs ls (by omega) hR (by rw [← hrun, show i = 320 by omega]; rfl) hW (lv_sub hl [0, 1] rfl)
      · refine lv_aload_n hx hb dX10_text_16 rfl (lv_at hl 0 rfl) ?_
        refine rw_getR hx hb hts hown hW 0 lk_0 2 17 rfl fX10_22 dX10_text_17 ?_
        refine rw_callVE hx hb hml hts hown hW hE ⟨Nat.le_refl 0, Nat.le_refl 0⟩ [] (va_recv hW.K hW.P rfl (hW.cell lk_17)) (c_X3_takesLine (l := l) (G := G) (ad := ad) (CA := CA) (nt := nt) (adK := adK) (adV := adV) (by omega) M x Mx hR) kX10_88 rfl ⟨Nat.le_of_ble_eq_true rfl, Nat.le_of_ble_eq_true rfl⟩ hl.1 rfl (Nat.le_of_ble_eq_true rfl) dX10_text_20 (fun v9 M10 H locs hp11 hW => ?_)
        obtain ⟨a12, rfl, hM10⟩ := hp11
        refine rw_stk (st' := [.int (iN a12)]) rfl ?_
        have ht : takeP M x _ _ := hM10
        have hta := ht.rng
        refine rw_if_eq (tgt := 32) hx hb dX10_text_23 (by decide) (by omega) (fun c_23 => ?_) (fun c_23 => ?_)
        · obtain ⟨y0, hR0, hk0⟩ := ht.zero c_23
          exact hC_32 i M10 y0 H locs ls (by omega) hR0.n (by rw [← hrun, show (320 - i).toNat = (319 - i).toNat + 1 by omega, hk0]) hW (lv_sub hl [0, 1] rfl)
        · obtain ⟨hR1, hk1⟩ := ht.one c_23
          refine rw_iinc (lv' := [(1, .int (iN (i + 1))), (0, .ref (ad 0))]) hx hb dX10_text_26 hl (k := 1) rfl (by decide) rfl (fun ls hl => ?_)
          refine lv_goto (tgt := 9) hx hb dX10_text_29 (by decide) ?_
          exact ih (i + 1) M10 (stepX (tb M) (M 18 1) x) H locs ls (by omega) (by omega) hR1.n (by rw [← hrun, show (320 - i).toNat = (319 - i).toNat + 1 by omega, hk1, show (320 - (i + 1)).toNat = (319 - i).toNat by omega]) hW (lv_sub hl [1, 0] rfl)
  refine rw_iconst hx hb dX10_text_0 ?_
  refine lv_istore_n (lv' := [(1, .int (iN 0)), (0, .ref (ad 0))]) hx hb dX10_text_1 rfl hl (by decide) rfl (fun ls hl => ?_)
  refine lv_aload_n hx hb dX10_text_2 rfl (lv_at hl 1 rfl) ?_
  refine rw_getR hx hb hts hown hW 0 lk_0 2 17 rfl fX10_22 dX10_text_3 ?_
  refine rw_callV hx hb hml hts hown hW ⟨Nat.le_refl 0, Nat.le_refl 0⟩ [] 17 lk_17 rfl (c_X3_open (l := l) (G := G) (ad := ad) (CA := CA) (nt := nt) (by omega) M (by omega)) kX10_85 rfl ⟨Nat.le_of_ble_eq_true rfl, Nat.le_of_ble_eq_true rfl⟩ hl.1 rfl (Nat.le_of_ble_eq_true rfl) dX10_text_6 (fun v13 M14 H locs hp15 hW => ?_)
  obtain ⟨rfl, hM14⟩ := hp15
  refine rw_stk (st' := []) rfl ?_
  exact hC_9 _ 0 M14 st0 H locs ls (Nat.lt_succ_self _) (by omega) hM14 rfl hW (lv_sub hl [1, 0] rfl)
