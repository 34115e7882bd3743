def endX (t : Int → Int) (len : Int) : PX → Prop
  | .inl _ => True
  | .inr g => tokK t len (glp g) = 0
section BX
variable {t : Int → Int} {len : Int} {x : PX}
theorem bodyX_0 (h : wordX t len 0 x = 0) : bodyX t len x = setX 47 (onlyV t len 0 3 9 x) (onlyX t len 0 3 9 x) := by simp only [bodyX, h]; rfl
theorem bodyX_1 (h : wordX t len 0 x = 1) : bodyX t len x = cellX t len 1 0 1 12 x := by simp only [bodyX, h]; rfl
theorem bodyX_2 (h : wordX t len 0 x = 2) : bodyX t len x = cellX t len 2 1 0 6 x := by simp only [bodyX, h]; rfl
theorem bodyX_3 (h : wordX t len 0 x = 3) : bodyX t len x = cellX t len 3 2 0 9 x := by simp only [bodyX, h]; rfl
theorem bodyX_4 (h : wordX t len 0 x = 4) : bodyX t len x = setX 27 (onlyV t len 4 0 8 x) (farX (onlyV t len 4 0 8 x) (onlyX t len 4 0 8 x)) := by simp only [bodyX, h]; rfl
theorem bodyX_5 (h : wordX t len 0 x = 5) : bodyX t len x = sideX t len 5 x := by simp only [bodyX, h]; rfl
theorem bodyX_6 (h : wordX t len 0 x = 6) : bodyX t len x = foolsX t len 6 x := by simp only [bodyX, h]; rfl
theorem bodyX_7 (h : wordX t len 0 x = 7) : bodyX t len x = setX 44 (onlyV t len 7 1 4 x) (onlyX t len 7 1 4 x) := by simp only [bodyX, h]; rfl
theorem bodyX_8 (h : wordX t len 0 x = 8) : bodyX t len x = setX 45 (onlyV t len 8 0 7 x) (onlyX t len 8 0 7 x) := by simp only [bodyX, h]; rfl
theorem bodyX_n (h : wordX t len 0 x < 0 ∨ 8 < wordX t len 0 x) : bodyX t len x = refX t len 2 x := by
  unfold bodyX
  simp only []
  rw [if_neg (by omega), if_neg (by omega), if_neg (by omega), if_neg (by omega), if_neg (by omega), if_neg (by omega), if_neg (by omega), if_neg (by omega), if_neg (by omega)]
end BX
theorem onlyV_rng (t : Int → Int) (len l : Int) {lo hi : Int} (h : lo ≤ hi) (x : PX) : lo ≤ onlyV t len l lo hi x ∧ onlyV t len l lo hi x ≤ hi := numV_rng t len h _
theorem sign_y {M0 M : Mem} {x : PX} (h : Rd M0 M (nextX (tb M0) (M0 18 1) x)) (hk : M 18 3 = 3) : signX (tb M0) (M0 18 1) x = nextX (tb M0) (M0 18 1) x := by
  unfold signX
  cases e : nextX (tb M0) (M0 18 1) x with
  | inl a => rfl
  | inr g =>
    rw [e] at h
    have : tokK (tb M0) (M0 18 1) (glp g) = 3 := by rw [← h.2.2.1.1]; exact hk
    show (if _ then _ else _) = _
    exact if_pos this
theorem sign_n {M0 M : Mem} {x : PX} (h : Rd M0 M (nextX (tb M0) (M0 18 1) x)) (hk : M 18 3 ≠ 3) : signX (tb M0) (M0 18 1) x = refX (tb M0) (M0 18 1) 2 (nextX (tb M0) (M0 18 1) x) := by
  unfold signX
  cases e : nextX (tb M0) (M0 18 1) x with
  | inl a => rfl
  | inr g =>
    rw [e] at h
    have : tokK (tb M0) (M0 18 1) (glp g) ≠ 3 := by rw [← h.2.2.1.1]; exact hk
    show (if _ then _ else _) = _
    exact if_neg this
theorem end_iff {M0 M : Mem} {y : PX} (h : Rd M0 M y) : endX (tb M0) (M0 18 1) y ↔ M 17 4 ≠ 0 ∨ M 18 3 = 0 := by
  cases y with
  | inl a =>
    have h1 := h.2.1.1
    have h2 := h.2.1.2.1
    exact ⟨fun _ => Or.inl (by omega), fun _ => trivial⟩
  | inr g =>
    have h1 := h.2.1.1
    rw [h.2.2.1.1]
    exact ⟨fun z => Or.inr z, fun z => z.resolve_left (fun q => q h1)⟩
theorem ok_iff {M0 M : Mem} {y : PX} (h : Rd M0 M y) : isOk y ↔ M 17 4 = 0 := by
  cases y with
  | inl a =>
    have h1 := h.2.1.1
    have h2 := h.2.1.2.1
    exact ⟨fun z => z.elim, fun z => absurd z (by omega)⟩
  | inr g => exact ⟨fun _ => h.2.1.1, fun _ => trivial⟩
abbrev P_X3_takesLine (M0 : Mem) (x : PX) (M : Mem) : Option Value → Mem → Prop := oI (fun zz MM => (zz = 0 ∧ endX (tb M0) (M0 18 1) (nextX (tb M0) (M0 18 1) x) ∧ Rd M0 MM (nextX (tb M0) (M0 18 1) x)) ∨ (¬ endX (tb M0) (M0 18 1) (nextX (tb M0) (M0 18 1) x) ∧ Rd M0 MM (signX (tb M0) (M0 18 1) (bodyX (tb M0) (M0 18 1) (nextX (tb M0) (M0 18 1) x))) ∧ BP (isOk (signX (tb M0) (M0 18 1) (bodyX (tb M0) (M0 18 1) (nextX (tb M0) (M0 18 1) x)))) zz))
set_option maxRecDepth 100000 in
set_option maxHeartbeats 4000000 in
theorem c_X3_takesLine {l : Launch} {G : va_G} {ad : Nat → Nat} {CA : Nat → ClassId} {nt : Nat} {adK adV : Nat → Nat} (hnt : 6 ≤ nt) (M0 : Mem) (x : PX) (M : Mem) (hR : Rn M0 M x) : MtE l yX3_takesLine cX3_takesLine 2 (some .boolean) 7 156 G ad CA nt LyK adK adV [.ref (ad 17)] M (P_X3_takesLine M0 x M) := by
  refine MtE.of (by decide) (Nat.le_of_ble_eq_true rfl) (fun p e s m args below meth c hx hb hr hml hts hown hlocks hnm hE hW ls hl => ?_)
  have hl : lv_has ls 2 [(0, .ref (ad 17))] := hl
  have hnt4 : 4 ≤ nt := by omega
  obtain ⟨H, hH⟩ : ∃ z, z = s.heap := ⟨_, rfl⟩
  obtain ⟨locs, hlo⟩ : ∃ z : List Loc, z = [] := ⟨_, rfl⟩
  rw [← hH, ← hlo] at hW ⊢
  have hC_234 : ∀ (Mx : Mem) (H : Heap) (locs : List Loc) (ls : Array Slot), (¬ endX (tb M0) (M0 18 1) (nextX (tb M0) (M0 18 1) x)) → (Rd M0 Mx (bodyX (tb M0) (M0 18 1) (nextX (tb M0) (M0 18 1) x))) → Wo G ad CA nt LyK (wA ad LyK) s Mx H locs → lv_has ls 2 [(0, .ref (ad 17))] → Wf l 7 156 G ad CA nt LyK (P_X3_takesLine M0 x M) p e s m args below meth c H locs (F0 m 234 ls []) := by
    intro Mx H locs ls hne hB hW hl
    refine lv_aload_n hx hb dX3_takesLine_234 rfl (lv_at hl 0 rfl) ?_
    refine rw_callV hx hb hml hts hown hW ⟨Nat.le_refl 0, Nat.le_refl 0⟩ [] 17 lk_17 rfl (c_X3_next (l := l) (G := G) (ad := ad) (CA := CA) (nt := nt) (by omega) M0 (bodyX (tb M0) (M0 18 1) (nextX (tb M0) (M0 18 1) x)) Mx hB.n) kX3_54 rfl ⟨Nat.le_of_ble_eq_true rfl, Nat.le_of_ble_eq_true rfl⟩ hl.1 rfl (Nat.le_of_ble_eq_true rfl) dX3_takesLine_235 (fun v1 M2 H locs hp3 hW => ?_)
    obtain ⟨rfl, hM2⟩ := hp3
    refine rw_stk (st' := []) rfl ?_
    have hn := hM2
    have hno := hn.2.2.2
    unfold tokOK at hno
    refine lv_aload_n hx hb dX3_takesLine_238 rfl (lv_at hl 0 rfl) ?_
    refine rw_getR hx hb hts hown hW 17 lk_17 0 18 rfl fX3_12 dX3_takesLine_239 ?_
    refine rw_getI hx hb hts hown hW 18 lk_18 3 3 rfl rfl fX3_57 dX3_takesLine_242 (v := (M2 18 3)) rfl ?_
    refine rw_iconst hx hb dX3_takesLine_245 ?_
    refine rw_icmp_eq (tgt := 254) hx hb dX3_takesLine_246 (by decide) (by omega) (by decide) (fun c_246 => ?_) (fun c_246 => ?_)
    · have hz : Rd M0 M2 (signX (tb M0) (M0 18 1) (bodyX (tb M0) (M0 18 1) (nextX (tb M0) (M0 18 1) x))) := by rw [sign_y hn c_246]; exact hn
      have hzf := hz.2.1.f
      refine lv_aload_n hx hb dX3_takesLine_254 rfl (lv_at hl 0 rfl) ?_
      refine rw_getI hx hb hts hown hW 17 lk_17 4 4 rfl rfl fX3_42 dX3_takesLine_255 (v := (M2 17 4)) rfl ?_
      refine rw_if_ne (tgt := 265) hx hb dX3_takesLine_258 (by decide) (by omega) (fun c_258 => ?_) (fun c_258 => ?_)
      · refine rw_iconst hx hb dX3_takesLine_265 ?_
        refine rw_zret hx hb hr hlocks hW dX3_takesLine_266 (Or.inl rfl) (⟨0, rfl, ?_⟩)
        exact Or.inr ⟨hne, hz, Or.inr ⟨rfl, fun q => c_258 ((ok_iff hz).mp q)⟩⟩
      · refine rw_iconst hx hb dX3_takesLine_261 ?_
        refine lv_goto (tgt := 266) hx hb dX3_takesLine_262 (by decide) ?_
        refine rw_zret hx hb hr hlocks hW dX3_takesLine_266 (Or.inr rfl) (⟨1, rfl, ?_⟩)
        exact Or.inr ⟨hne, hz, Or.inl ⟨rfl, (ok_iff hz).mpr (by omega)⟩⟩
    · refine lv_aload_n hx hb dX3_takesLine_249 rfl (lv_at hl 0 rfl) ?_
      refine rw_iconst hx hb dX3_takesLine_250 ?_
      refine rw_callV hx hb hml hts hown hW ⟨Nat.le_refl 0, Nat.le_refl 0⟩ [.int (iN 2)] 17 lk_17 rfl (c_X3_refuse (l := l) (G := G) (ad := ad) (CA := CA) (nt := nt) (by omega) 2 (by omega) (by decide) M0 (nextX (tb M0) (M0 18 1) (bodyX (tb M0) (M0 18 1) (nextX (tb M0) (M0 18 1) x))) M2 hn) kX3_100 rfl ⟨Nat.le_of_ble_eq_true rfl, Nat.le_of_ble_eq_true rfl⟩ hl.1 rfl (Nat.le_of_ble_eq_true rfl) dX3_takesLine_251 (fun v4 M5 H locs hp6 hW => ?_)
      obtain ⟨rfl, hM5⟩ := hp6
      refine rw_stk (st' := []) rfl ?_
      have hz : Rd M0 M5 (signX (tb M0) (M0 18 1) (bodyX (tb M0) (M0 18 1) (nextX (tb M0) (M0 18 1) x))) := by rw [sign_n hn c_246]; exact hM5
      have hzf := hz.2.1.f
      refine lv_aload_n hx hb dX3_takesLine_254 rfl (lv_at hl 0 rfl) ?_
      refine rw_getI hx hb hts hown hW 17 lk_17 4 4 rfl rfl fX3_42 dX3_takesLine_255 (v := (M5 17 4)) rfl ?_
      refine rw_if_ne (tgt := 265) hx hb dX3_takesLine_258 (by decide) (by omega) (fun c_258 => ?_) (fun c_258 => ?_)
      · refine rw_iconst hx hb dX3_takesLine_265 ?_
        refine rw_zret hx hb hr hlocks hW dX3_takesLine_266 (Or.inl rfl) (⟨0, rfl, ?_⟩)
        exact Or.inr ⟨hne, hz, Or.inr ⟨rfl, fun q => c_258 ((ok_iff hz).mp q)⟩⟩
      · refine rw_iconst hx hb dX3_takesLine_261 ?_
        refine lv_goto (tgt := 266) hx hb dX3_takesLine_262 (by decide) ?_
        refine rw_zret hx hb hr hlocks hW dX3_takesLine_266 (Or.inr rfl) (⟨1, rfl, ?_⟩)
        exact Or.inr ⟨hne, hz, Or.inl ⟨rfl, (ok_iff hz).mpr (by omega)⟩⟩
  refine lv_aload_n hx hb dX3_takesLine_0 rfl (lv_at hl 0 rfl) ?_
  refine rw_callV hx hb hml hts hown hW ⟨Nat.le_refl 0, Nat.le_refl 0⟩ [] 17 lk_17 rfl (c_X3_next (l := l) (G := G) (ad := ad) (CA := CA) (nt := nt) (by omega) M0 x M hR) kX3_54 rfl ⟨Nat.le_of_ble_eq_true rfl, Nat.le_of_ble_eq_true rfl⟩ hl.1 rfl (Nat.le_of_ble_eq_true rfl) dX3_takesLine_1 (fun v7 M8 H locs hp9 hW => ?_)
  obtain ⟨rfl, hM8⟩ := hp9
  refine rw_stk (st' := []) rfl ?_
  have hy := hM8
  have hyo := hy.2.2.2
  unfold tokOK at hyo
  have hyf := hy.2.1.f
  have hyl := hy.1.2.1
  have hyl2 := hy.1.len
  have hyl3 := hy.1.2.2.2.2
  refine lv_aload_n hx hb dX3_takesLine_4 rfl (lv_at hl 0 rfl) ?_
  refine rw_getI hx hb hts hown hW 17 lk_17 4 4 rfl rfl fX3_42 dX3_takesLine_5 (v := (M8 17 4)) rfl ?_
  refine rw_if_ne (tgt := 21) hx hb dX3_takesLine_8 (by decide) (by omega) (fun c_8 => ?_) (fun c_8 => ?_)
  · refine rw_iconst hx hb dX3_takesLine_21 ?_
    refine rw_zret hx hb hr hlocks hW dX3_takesLine_22 (Or.inl rfl) (⟨0, rfl, ?_⟩)
    exact Or.inl ⟨rfl, (end_iff hy).mpr (Or.inl c_8), hy⟩
  · refine lv_aload_n hx hb dX3_takesLine_11 rfl (lv_at hl 0 rfl) ?_
    refine rw_getR hx hb hts hown hW 17 lk_17 0 18 rfl fX3_12 dX3_takesLine_12 ?_
    refine rw_getI hx hb hts hown hW 18 lk_18 3 3 rfl rfl fX3_57 dX3_takesLine_15 (v := (M8 18 3)) rfl ?_
    refine rw_if_ne (tgt := 23) hx hb dX3_takesLine_18 (by decide) (by omega) (fun c_18 => ?_) (fun c_18 => ?_)
    · refine lv_aload_n hx hb dX3_takesLine_23 rfl (lv_at hl 0 rfl) ?_
      refine rw_getR hx hb hts hown hW 17 lk_17 0 18 rfl fX3_12 dX3_takesLine_24 ?_
      refine va_ldcS (own := RX3) hx hb hown hE.1.1 dX3_takesLine_27 ?_
      refine rw_callVE hx hb hml hts hown hW hE ⟨Nat.le_refl 0, Nat.le_refl 0⟩ [.ref (adK 0)] (va_recv hW.K hW.P rfl (hW.cell lk_18)) (c_X8_wordIn (l := l) (G := G) (ad := ad) (CA := CA) (nt := nt) (adK := adK) (adV := adV) (by omega) 0 (by decide) M8 (by omega) (by omega) (by omega)) kX3_62 rfl ⟨Nat.le_of_ble_eq_true rfl, Nat.le_of_ble_eq_true rfl⟩ hl.1 rfl (Nat.le_of_ble_eq_true rfl) dX3_takesLine_29 (fun v10 M11 H locs hp12 hW => ?_)
      obtain ⟨_, rfl, rfl, hp12⟩ := hp12
      rw [hp12] at hW
      refine rw_stk (st' := [.int (iN (wordF (tb M8) (M8 18 1) (M8 18 4) (M8 18 2) (M8 18 3) 0))]) rfl ?_
      have hwr := wordF_rng0 (t := tb M8) (len := M8 18 1) (st := M8 18 4) (nx := M8 18 2) (k := M8 18 3)
      have hwx : wordF (tb M8) (M8 18 1) (M8 18 4) (M8 18 2) (M8 18 3) 0 = wordX (tb M0) (M0 18 1) 0 (nextX (tb M0) (M0 18 1) x) := by obtain ⟨g, hg⟩ := hy.2.1.of0 c_8; rw [hg] at hy ⊢; exact hy.word 0
      obtain ⟨w, hw0⟩ : ∃ z, z = wordF (tb M8) (M8 18 1) (M8 18 4) (M8 18 2) (M8 18 3) 0 := ⟨_, rfl⟩
      rw [← hw0] at hwx hwr
      refine rw_stk (st' := [.int (iN w)]) (by rw [hw0]) ?_
      refine lv_istore_n (lv' := [(1, .int (iN w)), (0, .ref (ad 17))]) hx hb dX3_takesLine_32 rfl hl (by decide) rfl (fun ls hl => ?_)
      refine lv_iload_n hx hb dX3_takesLine_33 rfl (lv_at hl 0 rfl) ?_
      rcases (show (w < 0 ∨ 8 < w) ∨ w = 0 ∨ w = 1 ∨ w = 2 ∨ w = 3 ∨ w = 4 ∨ w = 5 ∨ w = 6 ∨ w = 7 ∨ w = 8 by omega) with c_34 | c_34 | c_34 | c_34 | c_34 | c_34 | c_34 | c_34 | c_34 | c_34
      · refine rw_tswD (tgt := 229) hx hb dX3_takesLine_34 (by omega) c_34 (by decide) ?_
        refine lv_aload_n hx hb dX3_takesLine_229 rfl (lv_at hl 1 rfl) ?_
        refine rw_iconst hx hb dX3_takesLine_230 ?_
        refine rw_callV hx hb hml hts hown hW ⟨Nat.le_refl 0, Nat.le_refl 0⟩ [.int (iN 2)] 17 lk_17 rfl (c_X3_refuse (l := l) (G := G) (ad := ad) (CA := CA) (nt := nt) (by omega) 2 (by omega) (by decide) M0 (nextX (tb M0) (M0 18 1) x) M8 hy) kX3_100 rfl ⟨Nat.le_of_ble_eq_true rfl, Nat.le_of_ble_eq_true rfl⟩ hl.1 rfl (Nat.le_of_ble_eq_true rfl) dX3_takesLine_231 (fun v13 M14 H locs hp15 hW => ?_)
        obtain ⟨rfl, hM14⟩ := hp15
        refine rw_stk (st' := []) rfl ?_
        exact hC_234 M14 H locs ls (fun z => by rcases (end_iff hy).mp z with q | q <;> omega) (by rw [bodyX_n (by rw [← hwx]; exact c_34)]; exact hM14) hW (lv_sub hl [1] rfl)
      · refine rw_tswK (tgt := 84) hx hb dX3_takesLine_34 (by omega) 0 (by omega) rfl (by decide) ?_
        refine lv_aload_n hx hb dX3_takesLine_84 rfl (lv_at hl 1 rfl) ?_
        refine rw_getR hx hb hts hown hW 17 lk_17 1 20 rfl fX3_21 dX3_takesLine_85 ?_
        refine lv_aload_n hx hb dX3_takesLine_88 rfl (lv_at hl 1 rfl) ?_
        refine lv_iload_n hx hb dX3_takesLine_89 rfl (lv_at hl 0 rfl) ?_
        refine rw_iconst hx hb dX3_takesLine_90 ?_
        refine rw_bipush hx hb dX3_takesLine_91 (by decide) ?_
        refine rw_callV hx hb hml hts hown hW ⟨Nat.le_refl 0, Nat.le_refl 0⟩ [.int (iN w), .int (iN 3), .int (iN 9)] 17 lk_17 rfl (c_X3_onlyNumber (l := l) (G := G) (ad := ad) (CA := CA) (nt := nt) (by omega) w (by omega) 3 9 (by decide) M0 (nextX (tb M0) (M0 18 1) x) M8 hy) kX3_66 rfl ⟨Nat.le_of_ble_eq_true rfl, Nat.le_of_ble_eq_true rfl⟩ hl.1 rfl (Nat.le_of_ble_eq_true rfl) dX3_takesLine_93 (fun v16 M17 H locs hp18 hW => ?_)
        obtain ⟨a19, rfl, hM17⟩ := hp18
        refine rw_stk (st' := [.int (iN a19), .ref (ad 20)]) rfl ?_
        have hvr := onlyV_rng (tb M0) (M0 18 1) 0 (show (3 : Int) ≤ 9 by decide) (nextX (tb M0) (M0 18 1) x)
        rw [c_34] at hM17
        obtain ⟨rfl, hS⟩ := hM17
        refine rw_putI hx hb hts hown hW 20 fk_20.1 0 0 rfl rfl qX3_45 (v := onlyV (tb M0) (M0 18 1) 0 3 9 (nextX (tb M0) (M0 18 1) x)) dX3_takesLine_96 (fun H locs hW => ?_)
        obtain ⟨M20, hM20⟩ : ∃ z, z = upd2 M17 20 0 (onlyV (tb M0) (M0 18 1) 0 3 9 (nextX (tb M0) (M0 18 1) x)) := ⟨_, rfl⟩
        rw [← hM20] at hW
        refine lv_goto (tgt := 234) hx hb dX3_takesLine_99 (by decide) ?_
        exact hC_234 M20 H locs ls (fun z => by rcases (end_iff hy).mp z with q | q <;> omega) (by rw [bodyX_0 (by rw [← hwx]; exact c_34), hM20]; exact hS.seto (by omega) (by omega)) hW (lv_sub hl [1] rfl)
      · refine rw_tswK (tgt := 102) hx hb dX3_takesLine_34 (by omega) 1 (by omega) rfl (by decide) ?_
        refine lv_aload_n hx hb dX3_takesLine_102 rfl (lv_at hl 1 rfl) ?_
        refine lv_iload_n hx hb dX3_takesLine_103 rfl (lv_at hl 0 rfl) ?_
        refine lv_aload_n hx hb dX3_takesLine_104 rfl (lv_at hl 1 rfl) ?_
        refine rw_getR hx hb hts hown hW 17 lk_17 1 20 rfl fX3_21 dX3_takesLine_105 ?_
        refine rw_getR hx hb hts hown hW 20 fk_20.1 5 21 rfl fX3_70 dX3_takesLine_108 ?_
        refine rw_iconst hx hb dX3_takesLine_111 ?_
        refine rw_bipush hx hb dX3_takesLine_112 (by decide) ?_
        refine rw_callV hx hb hml hts hown hW ⟨Nat.le_refl 0, Nat.le_refl 0⟩ [.int (iN w), .ref (ad 21), .int (iN 1), .int (iN 12)] 17 lk_17 rfl (c_X3_cellLine (l := l) (G := G) (ad := ad) (CA := CA) (nt := nt) (by omega) w (by omega) 21 fk_20.2.1 0 (by decide) 1 12 (by decide) M0 (nextX (tb M0) (M0 18 1) x) M8 hy) kX3_73 rfl ⟨Nat.le_of_ble_eq_true rfl, Nat.le_of_ble_eq_true rfl⟩ hl.1 rfl (Nat.le_of_ble_eq_true rfl) dX3_takesLine_114 (fun v21 M22 H locs hp23 hW => ?_)
        obtain ⟨rfl, hM22⟩ := hp23
        refine rw_stk (st' := []) rfl ?_
        refine lv_goto (tgt := 234) hx hb dX3_takesLine_117 (by decide) ?_
        exact hC_234 M22 H locs ls (fun z => by rcases (end_iff hy).mp z with q | q <;> omega) (by rw [bodyX_1 (by rw [← hwx]; exact c_34)]; rw [c_34] at hM22; exact hM22) hW (lv_sub hl [1] rfl)
      · refine rw_tswK (tgt := 120) hx hb dX3_takesLine_34 (by omega) 2 (by omega) rfl (by decide) ?_
        refine lv_aload_n hx hb dX3_takesLine_120 rfl (lv_at hl 1 rfl) ?_
        refine lv_iload_n hx hb dX3_takesLine_121 rfl (lv_at hl 0 rfl) ?_
        refine lv_aload_n hx hb dX3_takesLine_122 rfl (lv_at hl 1 rfl) ?_
        refine rw_getR hx hb hts hown hW 17 lk_17 1 20 rfl fX3_21 dX3_takesLine_123 ?_
        refine rw_getR hx hb hts hown hW 20 fk_20.1 6 22 rfl fX3_77 dX3_takesLine_126 ?_
        refine rw_iconst hx hb dX3_takesLine_129 ?_
        refine rw_bipush hx hb dX3_takesLine_130 (by decide) ?_
        refine rw_callV hx hb hml hts hown hW ⟨Nat.le_refl 0, Nat.le_refl 0⟩ [.int (iN w), .ref (ad 22), .int (iN 0), .int (iN 6)] 17 lk_17 rfl (c_X3_cellLine (l := l) (G := G) (ad := ad) (CA := CA) (nt := nt) (by omega) w (by omega) 22 fk_20.2.2.1 1 (by decide) 0 6 (by decide) M0 (nextX (tb M0) (M0 18 1) x) M8 hy) kX3_73 rfl ⟨Nat.le_of_ble_eq_true rfl, Nat.le_of_ble_eq_true rfl⟩ hl.1 rfl (Nat.le_of_ble_eq_true rfl) dX3_takesLine_132 (fun v24 M25 H locs hp26 hW => ?_)
        obtain ⟨rfl, hM25⟩ := hp26
        refine rw_stk (st' := []) rfl ?_
        refine lv_goto (tgt := 234) hx hb dX3_takesLine_135 (by decide) ?_
        exact hC_234 M25 H locs ls (fun z => by rcases (end_iff hy).mp z with q | q <;> omega) (by rw [bodyX_2 (by rw [← hwx]; exact c_34)]; rw [c_34] at hM25; exact hM25) hW (lv_sub hl [1] rfl)
      · refine rw_tswK (tgt := 138) hx hb dX3_takesLine_34 (by omega) 3 (by omega) rfl (by decide) ?_
        refine lv_aload_n hx hb dX3_takesLine_138 rfl (lv_at hl 1 rfl) ?_
        refine lv_iload_n hx hb dX3_takesLine_139 rfl (lv_at hl 0 rfl) ?_
        refine lv_aload_n hx hb dX3_takesLine_140 rfl (lv_at hl 1 rfl) ?_
        refine rw_getR hx hb hts hown hW 17 lk_17 1 20 rfl fX3_21 dX3_takesLine_141 ?_
        refine rw_getR hx hb hts hown hW 20 fk_20.1 7 23 rfl fX3_80 dX3_takesLine_144 ?_
        refine rw_iconst hx hb dX3_takesLine_147 ?_
        refine rw_bipush hx hb dX3_takesLine_148 (by decide) ?_
        refine rw_callV hx hb hml hts hown hW ⟨Nat.le_refl 0, Nat.le_refl 0⟩ [.int (iN w), .ref (ad 23), .int (iN 0), .int (iN 9)] 17 lk_17 rfl (c_X3_cellLine (l := l) (G := G) (ad := ad) (CA := CA) (nt := nt) (by omega) w (by omega) 23 fk_20.2.2.2.1 2 (by decide) 0 9 (by decide) M0 (nextX (tb M0) (M0 18 1) x) M8 hy) kX3_73 rfl ⟨Nat.le_of_ble_eq_true rfl, Nat.le_of_ble_eq_true rfl⟩ hl.1 rfl (Nat.le_of_ble_eq_true rfl) dX3_takesLine_150 (fun v27 M28 H locs hp29 hW => ?_)
        obtain ⟨rfl, hM28⟩ := hp29
        refine rw_stk (st' := []) rfl ?_
        refine lv_goto (tgt := 234) hx hb dX3_takesLine_153 (by decide) ?_
        exact hC_234 M28 H locs ls (fun z => by rcases (end_iff hy).mp z with q | q <;> omega) (by rw [bodyX_3 (by rw [← hwx]; exact c_34)]; rw [c_34] at hM28; exact hM28) hW (lv_sub hl [1] rfl)
      · refine rw_tswK (tgt := 156) hx hb dX3_takesLine_34 (by omega) 4 (by omega) rfl (by decide) ?_
        refine lv_aload_n hx hb dX3_takesLine_156 rfl (lv_at hl 1 rfl) ?_
        refine rw_getR hx hb hts hown hW 17 lk_17 1 20 rfl fX3_21 dX3_takesLine_157 ?_
        refine lv_aload_n hx hb dX3_takesLine_160 rfl (lv_at hl 1 rfl) ?_
        refine lv_aload_n hx hb dX3_takesLine_161 rfl (lv_at hl 1 rfl) ?_
        refine lv_iload_n hx hb dX3_takesLine_162 rfl (lv_at hl 0 rfl) ?_
        refine rw_iconst hx hb dX3_takesLine_163 ?_
        refine rw_bipush hx hb dX3_takesLine_164 (by decide) ?_
        refine rw_callV hx hb hml hts hown hW ⟨Nat.le_refl 0, Nat.le_refl 0⟩ [.int (iN w), .int (iN 0), .int (iN 8)] 17 lk_17 rfl (c_X3_onlyNumber (l := l) (G := G) (ad := ad) (CA := CA) (nt := nt) (by omega) w (by omega) 0 8 (by decide) M0 (nextX (tb M0) (M0 18 1) x) M8 hy) kX3_66 rfl ⟨Nat.le_of_ble_eq_true rfl, Nat.le_of_ble_eq_true rfl⟩ hl.1 rfl (Nat.le_of_ble_eq_true rfl) dX3_takesLine_166 (fun v30 M31 H locs hp32 hW => ?_)
        obtain ⟨a33, rfl, hM31⟩ := hp32
        refine rw_stk (st' := [.int (iN a33), .ref (ad 17), .ref (ad 20)]) rfl ?_
        have hvr := onlyV_rng (tb M0) (M0 18 1) 4 (show (0 : Int) ≤ 8 by decide) (nextX (tb M0) (M0 18 1) x)
        rw [c_34] at hM31
        obtain ⟨rfl, hS⟩ := hM31
        refine rw_callV hx hb hml hts hown hW ⟨Nat.le_refl 0, Nat.le_refl 0⟩ [.int (iN (onlyV (tb M0) (M0 18 1) 4 0 8 (nextX (tb M0) (M0 18 1) x)))] 17 lk_17 rfl (c_X3_noted (l := l) (G := G) (ad := ad) (CA := CA) (nt := nt) (by omega) (onlyV (tb M0) (M0 18 1) 4 0 8 (nextX (tb M0) (M0 18 1) x)) (onlyV_rng (tb M0) (M0 18 1) 4 (by decide) (nextX (tb M0) (M0 18 1) x)) M0 (onlyX (tb M0) (M0 18 1) 4 0 8 (nextX (tb M0) (M0 18 1) x)) M31 hS) kX3_83 rfl ⟨Nat.le_of_ble_eq_true rfl, Nat.le_of_ble_eq_true rfl⟩ hl.1 rfl (Nat.le_of_ble_eq_true rfl) dX3_takesLine_169 (fun v34 M35 H locs hp36 hW => ?_)
        obtain ⟨a37, rfl, hM35⟩ := hp36
        refine rw_stk (st' := [.int (iN a37), .ref (ad 20)]) rfl ?_
        obtain ⟨rfl, hS⟩ := hM35
        refine rw_putI hx hb hts hown hW 20 fk_20.1 1 1 rfl rfl qX3_35 (v := onlyV (tb M0) (M0 18 1) 4 0 8 (nextX (tb M0) (M0 18 1) x)) dX3_takesLine_172 (fun H locs hW => ?_)
        obtain ⟨M38, hM38⟩ : ∃ z, z = upd2 M35 20 1 (onlyV (tb M0) (M0 18 1) 4 0 8 (nextX (tb M0) (M0 18 1) x)) := ⟨_, rfl⟩
        rw [← hM38] at hW
        refine lv_goto (tgt := 234) hx hb dX3_takesLine_175 (by decide) ?_
        exact hC_234 M38 H locs ls (fun z => by rcases (end_iff hy).mp z with q | q <;> omega) (by rw [bodyX_4 (by rw [← hwx]; exact c_34), hM38]; exact hS.seto (by omega) (by omega)) hW (lv_sub hl [1] rfl)
      · refine rw_tswK (tgt := 178) hx hb dX3_takesLine_34 (by omega) 5 (by omega) rfl (by decide) ?_
        refine lv_aload_n hx hb dX3_takesLine_178 rfl (lv_at hl 1 rfl) ?_
        refine lv_iload_n hx hb dX3_takesLine_179 rfl (lv_at hl 0 rfl) ?_
        refine rw_callVE hx hb hml hts hown hW hE ⟨Nat.le_refl 0, Nat.le_refl 0⟩ [.int (iN w)] (va_recv hW.K hW.P rfl (hW.cell lk_17)) (c_X3_sideLine (l := l) (G := G) (ad := ad) (CA := CA) (nt := nt) (adK := adK) (adV := adV) (by omega) w (by omega) M0 (nextX (tb M0) (M0 18 1) x) M8 hy) kX3_87 rfl ⟨Nat.le_of_ble_eq_true rfl, Nat.le_of_ble_eq_true rfl⟩ hl.1 rfl (Nat.le_of_ble_eq_true rfl) dX3_takesLine_180 (fun v39 M40 H locs hp41 hW => ?_)
        obtain ⟨rfl, hM40⟩ := hp41
        refine rw_stk (st' := []) rfl ?_
        refine lv_goto (tgt := 234) hx hb dX3_takesLine_183 (by decide) ?_
        exact hC_234 M40 H locs ls (fun z => by rcases (end_iff hy).mp z with q | q <;> omega) (by rw [bodyX_5 (by rw [← hwx]; exact c_34)]; rw [c_34] at hM40; exact hM40) hW (lv_sub hl [1] rfl)
      · refine rw_tswK (tgt := 186) hx hb dX3_takesLine_34 (by omega) 6 (by omega) rfl (by decide) ?_
        refine lv_aload_n hx hb dX3_takesLine_186 rfl (lv_at hl 1 rfl) ?_
        refine lv_iload_n hx hb dX3_takesLine_187 rfl (lv_at hl 0 rfl) ?_
        refine rw_callV hx hb hml hts hown hW ⟨Nat.le_refl 0, Nat.le_refl 0⟩ [.int (iN w)] 17 lk_17 rfl (c_X3_foolsLine (l := l) (G := G) (ad := ad) (CA := CA) (nt := nt) (by omega) w (by omega) M0 (nextX (tb M0) (M0 18 1) x) M8 hy) kX3_91 rfl ⟨Nat.le_of_ble_eq_true rfl, Nat.le_of_ble_eq_true rfl⟩ hl.1 rfl (Nat.le_of_ble_eq_true rfl) dX3_takesLine_188 (fun v42 M43 H locs hp44 hW => ?_)
        obtain ⟨rfl, hM43⟩ := hp44
        refine rw_stk (st' := []) rfl ?_
        refine lv_goto (tgt := 234) hx hb dX3_takesLine_191 (by decide) ?_
        exact hC_234 M43 H locs ls (fun z => by rcases (end_iff hy).mp z with q | q <;> omega) (by rw [bodyX_6 (by rw [← hwx]; exact c_34)]; rw [c_34] at hM43; exact hM43) hW (lv_sub hl [1] rfl)
      · refine rw_tswK (tgt := 194) hx hb dX3_takesLine_34 (by omega) 7 (by omega) rfl (by decide) ?_
        refine lv_aload_n hx hb dX3_takesLine_194 rfl (lv_at hl 1 rfl) ?_
        refine rw_getR hx hb hts hown hW 17 lk_17 1 20 rfl fX3_21 dX3_takesLine_195 ?_
        refine lv_aload_n hx hb dX3_takesLine_198 rfl (lv_at hl 1 rfl) ?_
        refine lv_iload_n hx hb dX3_takesLine_199 rfl (lv_at hl 0 rfl) ?_
        refine rw_iconst hx hb dX3_takesLine_200 ?_
        refine rw_iconst hx hb dX3_takesLine_201 ?_
        refine rw_callV hx hb hml hts hown hW ⟨Nat.le_refl 0, Nat.le_refl 0⟩ [.int (iN w), .int (iN 1), .int (iN 4)] 17 lk_17 rfl (c_X3_onlyNumber (l := l) (G := G) (ad := ad) (CA := CA) (nt := nt) (by omega) w (by omega) 1 4 (by decide) M0 (nextX (tb M0) (M0 18 1) x) M8 hy) kX3_66 rfl ⟨Nat.le_of_ble_eq_true rfl, Nat.le_of_ble_eq_true rfl⟩ hl.1 rfl (Nat.le_of_ble_eq_true rfl) dX3_takesLine_202 (fun v45 M46 H locs hp47 hW => ?_)
        obtain ⟨a48, rfl, hM46⟩ := hp47
        refine rw_stk (st' := [.int (iN a48), .ref (ad 20)]) rfl ?_
        have hvr := onlyV_rng (tb M0) (M0 18 1) 7 (show (1 : Int) ≤ 4 by decide) (nextX (tb M0) (M0 18 1) x)
        rw [c_34] at hM46
        obtain ⟨rfl, hS⟩ := hM46
        refine rw_putI hx hb hts hown hW 20 fk_20.1 2 2 rfl rfl qX3_94 (v := onlyV (tb M0) (M0 18 1) 7 1 4 (nextX (tb M0) (M0 18 1) x)) dX3_takesLine_205 (fun H locs hW => ?_)
        obtain ⟨M49, hM49⟩ : ∃ z, z = upd2 M46 20 2 (onlyV (tb M0) (M0 18 1) 7 1 4 (nextX (tb M0) (M0 18 1) x)) := ⟨_, rfl⟩
        rw [← hM49] at hW
        refine lv_goto (tgt := 234) hx hb dX3_takesLine_208 (by decide) ?_
        exact hC_234 M49 H locs ls (fun z => by rcases (end_iff hy).mp z with q | q <;> omega) (by rw [bodyX_7 (by rw [← hwx]; exact c_34), hM49]; exact hS.seto (by omega) (by omega)) hW (lv_sub hl [1] rfl)
      · refine rw_tswK (tgt := 211) hx hb dX3_takesLine_34 (by omega) 8 (by omega) rfl (by decide) ?_
        refine lv_aload_n hx hb dX3_takesLine_211 rfl (lv_at hl 1 rfl) ?_
        refine rw_getR hx hb hts hown hW 17 lk_17 1 20 rfl fX3_21 dX3_takesLine_212 ?_
        refine lv_aload_n hx hb dX3_takesLine_215 rfl (lv_at hl 1 rfl) ?_
        refine lv_iload_n hx hb dX3_takesLine_216 rfl (lv_at hl 0 rfl) ?_
        refine rw_iconst hx hb dX3_takesLine_217 ?_
        refine rw_bipush hx hb dX3_takesLine_218 (by decide) ?_
        refine rw_callV hx hb hml hts hown hW ⟨Nat.le_refl 0, Nat.le_refl 0⟩ [.int (iN w), .int (iN 0), .int (iN 7)] 17 lk_17 rfl (c_X3_onlyNumber (l := l) (G := G) (ad := ad) (CA := CA) (nt := nt) (by omega) w (by omega) 0 7 (by decide) M0 (nextX (tb M0) (M0 18 1) x) M8 hy) kX3_66 rfl ⟨Nat.le_of_ble_eq_true rfl, Nat.le_of_ble_eq_true rfl⟩ hl.1 rfl (Nat.le_of_ble_eq_true rfl) dX3_takesLine_220 (fun v50 M51 H locs hp52 hW => ?_)
        obtain ⟨a53, rfl, hM51⟩ := hp52
        refine rw_stk (st' := [.int (iN a53), .ref (ad 20)]) rfl ?_
        have hvr := onlyV_rng (tb M0) (M0 18 1) 8 (show (0 : Int) ≤ 7 by decide) (nextX (tb M0) (M0 18 1) x)
        rw [c_34] at hM51
        obtain ⟨rfl, hS⟩ := hM51
        refine rw_putI hx hb hts hown hW 20 fk_20.1 3 3 rfl rfl qX3_97 (v := onlyV (tb M0) (M0 18 1) 8 0 7 (nextX (tb M0) (M0 18 1) x)) dX3_takesLine_223 (fun H locs hW => ?_)
        obtain ⟨M54, hM54⟩ : ∃ z, z = upd2 M51 20 3 (onlyV (tb M0) (M0 18 1) 8 0 7 (nextX (tb M0) (M0 18 1) x)) := ⟨_, rfl⟩
        rw [← hM54] at hW
        refine lv_goto (tgt := 234) hx hb dX3_takesLine_226 (by decide) ?_
        exact hC_234 M54 H locs ls (fun z => by rcases (end_iff hy).mp z with q | q <;> omega) (by rw [bodyX_8 (by rw [← hwx]; exact c_34), hM54]; exact hS.seto (by omega) (by omega)) hW (lv_sub hl [1] rfl)
    · refine rw_iconst hx hb dX3_takesLine_21 ?_
      refine rw_zret hx hb hr hlocks hW dX3_takesLine_22 (Or.inl rfl) (⟨0, rfl, ?_⟩)
      exact Or.inl ⟨rfl, (end_iff hy).mpr (Or.inr c_18), hy⟩
