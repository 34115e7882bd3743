def closeX (len : Int) : PX → PX
  | .inl a => .inl a
  | .inr g => if gpg g 47 ≤ gfar g then .inl (5, len) else .inr (gpos g, glp g, gfar g, gsn g, setF (gpg g) 27 (if gpg g 27 = -1 then gpg g 47 / 2 else gpg g 27))
/-- the reader's memory when a text has been read -/
def Rf (M0 M : Mem) (x : PX) : Prop := (∀ (q : Nat) (j : Int), ¬ ((q = 17 ∧ 3 ≤ j) ∨ (q = 18 ∧ 1 ≤ j) ∨ (20 ≤ q ∧ q ≤ 28)) → M q j = M0 q j) ∧ M 18 1 = 0 ∧ (match x with
  | .inl a => M 17 4 = a.1 ∧ 1 ≤ a.1 ∧ a.1 ≤ 5 ∧ M 17 5 = a.2 ∧ 0 ≤ a.2 ∧ a.2 ≤ 320
  | .inr g => M 17 4 = 0 ∧ fld M 20 = gpg g)
theorem Rn.closeA {M0 M M' : Mem} {x : PX} (h : Rn M0 M x) (h0 : M 17 4 ≠ 0) (hfr : ∀ (q : Nat) (j : Int), ¬ (q = 18 ∧ j = 1) → ¬ (q = 20 ∧ j = 1) → M' q j = M q j) (h1 : M' 18 1 = 0) (len : Int) : Rf M0 M' (closeX len x) := by
  obtain ⟨a, rfl⟩ := h.2.of1 h0
  obtain ⟨hc, a1, a2, a3, a4, a5, a6, a7⟩ := h
  exact ⟨fun q j hq => (hfr q j (by omega) (by omega)).trans (hc.1 q j (by omega)), h1, (hfr 17 4 (by omega) (by omega)).trans a1, a2, a3, (hfr 17 5 (by omega) (by omega)).trans a4, a5, a6⟩
theorem Rn.closeB {M0 M M' : Mem} {x : PX} (h : Rn M0 M x) (h0 : M 17 4 = 0) (hlt : M 20 0 ≤ M 17 3) (hfr : ∀ (q : Nat) (j : Int), ¬ (q = 18 ∧ j = 1) → ¬ (q = 20 ∧ j = 1) → ¬ (q = 17 ∧ 3 ≤ j) → M' q j = M q j) (h1 : M' 18 1 = 0) (h4 : M' 17 4 = 5) (h5 : M' 17 5 = M 18 1) : Rf M0 M' (closeX (M0 18 1) x) := by
  obtain ⟨g, rfl⟩ := h.2.of0 h0
  obtain ⟨hc, a1, a2, a3, a4, a5⟩ := h
  have hl := hc.len
  have h6 := hc.2.2.2.2
  have e : closeX (M0 18 1) (.inr g) = .inl (5, M0 18 1) := by
    show (if _ then _ else _) = _
    rw [if_pos (by rw [← a4, ← a3, fld_47]; exact hlt)]
  rw [e]
  exact ⟨fun q j hq => (hfr q j (by omega) (by omega) (by omega)).trans (hc.1 q j (by omega)), h1, h4, (show (1 : Int) ≤ 5 by decide), (show (5 : Int) ≤ 5 by decide), h5.trans hl, h6.1, h6.2⟩
theorem Rn.closeC {M0 M M' : Mem} {x : PX} (h : Rn M0 M x) (h0 : M 17 4 = 0) (hlt : M 17 3 < M 20 0) (hfr : ∀ (q : Nat) (j : Int), ¬ (q = 18 ∧ j = 1) → ¬ (q = 20 ∧ j = 1) → M' q j = M q j) (h1 : M' 18 1 = 0) (h2 : M' 20 1 = if M 20 1 = -1 then M 20 0 / 2 else M 20 1) : Rf M0 M' (closeX (M0 18 1) x) := by
  obtain ⟨g, rfl⟩ := h.2.of0 h0
  obtain ⟨hc, a1, a2, a3, a4, a5⟩ := h
  have e : closeX (M0 18 1) (.inr g) = .inr (gpos g, glp g, gfar g, gsn g, setF (gpg g) 27 (if gpg g 27 = -1 then gpg g 47 / 2 else gpg g 27)) := by
    show (if _ then _ else _) = _
    rw [if_neg (by rw [← a4, ← a3, fld_47]; omega)]
  rw [e]
  refine ⟨fun q j hq => (hfr q j (by omega) (by omega)).trans (hc.1 q j (by omega)), h1, (hfr 17 4 (by omega) (by omega)).trans a1, ?_⟩
  show fld M' 20 = setF (gpg g) 27 _
  rw [← a4, ← fld_setown M 20 1 27 _ (by decide)]
  refine fld_eq8 (fun q z1 z2 => funext fun j => ?_)
  rw [upd2_at]
  split
  · rename_i z; rw [z.1, z.2, h2, fld_27, fld_47]
  · rename_i z; exact hfr q j (by omega) (fun y => z y)
abbrev P_X3_close (M0 : Mem) (x : PX) (M : Mem) : Option Value → Mem → Prop := oV (fun MM => Rf M0 MM (closeX (M0 18 1) x))
set_option maxRecDepth 100000 in
set_option maxHeartbeats 4000000 in
theorem c_X3_close {l : Launch} {G : va_G} {ad : Nat → Nat} {CA : Nat → ClassId} {nt : Nat} (hnt : 6 ≤ nt) (M0 : Mem) (x : PX) (M : Mem) (hR : Rn M0 M x) : Mt l yX3_close cX3_close 1 none 0 0 G ad CA nt LyK [.ref (ad 17)] M (P_X3_close M0 x M) := by
  refine Mt.of (by decide) (Nat.le_of_ble_eq_true rfl) (fun p e s m args below meth c hx hb hr hml hts hown hlocks hnm hW ls hl => ?_)
  have hl : lv_has ls 1 [(0, .ref (ad 17))] := hl
  have hnt4 : 4 ≤ nt := by omega
  obtain ⟨H, hH⟩ : ∃ z, z = s.heap := ⟨_, rfl⟩
  obtain ⟨locs, hlo⟩ : ∃ z : List Loc, z = [] := ⟨_, rfl⟩
  rw [← hH, ← hlo] at hW ⊢
  have hq1 := hR.2.f
  have hq2 := hR.1.2.2.1
  refine lv_aload_n hx hb dX3_close_0 rfl (lv_at hl 0 rfl) ?_
  refine rw_getI hx hb hts hown hW 17 lk_17 4 4 rfl rfl fX3_42 dX3_close_1 (v := (M 17 4)) rfl ?_
  refine rw_if_ne (tgt := 37) hx hb dX3_close_4 (by decide) (by omega) (fun c_4 => ?_) (fun c_4 => ?_)
  · refine lv_aload_n hx hb dX3_close_37 rfl (lv_at hl 0 rfl) ?_
    refine rw_getR hx hb hts hown hW 17 lk_17 1 20 rfl fX3_21 dX3_close_38 ?_
    refine rw_getI hx hb hts hown hW 20 fk_20.1 1 1 rfl rfl fX3_35 dX3_close_41 (v := (M 20 1)) rfl ?_
    refine rw_iconst hx hb dX3_close_44 ?_
    refine rw_icmp_ne (tgt := 64) hx hb dX3_close_45 (by decide) (by omega) (by decide) (fun c_45 => ?_) (fun c_45 => ?_)
    · refine lv_aload_n hx hb dX3_close_64 rfl (lv_at hl 0 rfl) ?_
      refine rw_getR hx hb hts hown hW 17 lk_17 0 18 rfl fX3_12 dX3_close_65 ?_
      refine rw_iconst hx hb dX3_close_68 ?_
      refine rw_putI hx hb hts hown hW 18 lk_18 1 1 rfl rfl qX3_48 (v := 0) dX3_close_69 (fun H locs hW => ?_)
      obtain ⟨M1, hM1⟩ : ∃ z, z = upd2 M 18 1 0 := ⟨_, rfl⟩
      rw [← hM1] at hW
      refine rw_vret hx hb hr hlocks hW dX3_close_72 (⟨rfl, ?_⟩)
      exact hR.closeA c_4 (fun q j z1 z2 => by rw [hM1, upd2_at, if_neg (by omega)]) (by rw [hM1, upd2_eq]) _
    · refine lv_aload_n hx hb dX3_close_48 rfl (lv_at hl 0 rfl) ?_
      refine rw_getR hx hb hts hown hW 17 lk_17 1 20 rfl fX3_21 dX3_close_49 ?_
      refine lv_aload_n hx hb dX3_close_52 rfl (lv_at hl 0 rfl) ?_
      refine rw_getR hx hb hts hown hW 17 lk_17 1 20 rfl fX3_21 dX3_close_53 ?_
      refine rw_getI hx hb hts hown hW 20 fk_20.1 0 0 rfl rfl fX3_45 dX3_close_56 (v := (M 20 0)) rfl ?_
      refine rw_iconst hx hb dX3_close_59 ?_
      refine rw_idiv hx hb dX3_close_60 (by omega) (by decide) (by decide) rfl ?_
      rw [show Int.tdiv (M 20 0) 2 = M 20 0 / 2 from by rw [Int.tdiv_eq_ediv_of_nonneg (by omega)]]
      refine rw_putI hx hb hts hown hW 20 fk_20.1 1 1 rfl rfl qX3_35 (v := M 20 0 / 2) dX3_close_61 (fun H locs hW => ?_)
      obtain ⟨M2, hM2⟩ : ∃ z, z = upd2 M 20 1 (M 20 0 / 2) := ⟨_, rfl⟩
      rw [← hM2] at hW
      refine lv_aload_n hx hb dX3_close_64 rfl (lv_at hl 0 rfl) ?_
      refine rw_getR hx hb hts hown hW 17 lk_17 0 18 rfl fX3_12 dX3_close_65 ?_
      refine rw_iconst hx hb dX3_close_68 ?_
      refine rw_putI hx hb hts hown hW 18 lk_18 1 1 rfl rfl qX3_48 (v := 0) dX3_close_69 (fun H locs hW => ?_)
      obtain ⟨M3, hM3⟩ : ∃ z, z = upd2 M2 18 1 0 := ⟨_, rfl⟩
      rw [← hM3] at hW
      refine rw_vret hx hb hr hlocks hW dX3_close_72 (⟨rfl, ?_⟩)
      exact hR.closeA c_4 (fun q j z1 z2 => by rw [hM3, upd2_at, if_neg (by omega), hM2, upd2_at, if_neg (by omega)]) (by rw [hM3, upd2_eq]) _
  · refine lv_aload_n hx hb dX3_close_7 rfl (lv_at hl 0 rfl) ?_
    refine rw_getI hx hb hts hown hW 17 lk_17 3 3 rfl rfl fX3_39 dX3_close_8 (v := (M 17 3)) rfl ?_
    refine lv_aload_n hx hb dX3_close_11 rfl (lv_at hl 0 rfl) ?_
    refine rw_getR hx hb hts hown hW 17 lk_17 1 20 rfl fX3_21 dX3_close_12 ?_
    refine rw_getI hx hb hts hown hW 20 fk_20.1 0 0 rfl rfl fX3_45 dX3_close_15 (v := (M 20 0)) rfl ?_
    refine rw_icmp_lt (tgt := 37) hx hb dX3_close_18 (by decide) (by omega) (by omega) (fun c_18 => ?_) (fun c_18 => ?_)
    · refine lv_aload_n hx hb dX3_close_37 rfl (lv_at hl 0 rfl) ?_
      refine rw_getR hx hb hts hown hW 17 lk_17 1 20 rfl fX3_21 dX3_close_38 ?_
      refine rw_getI hx hb hts hown hW 20 fk_20.1 1 1 rfl rfl fX3_35 dX3_close_41 (v := (M 20 1)) rfl ?_
      refine rw_iconst hx hb dX3_close_44 ?_
      refine rw_icmp_ne (tgt := 64) hx hb dX3_close_45 (by decide) (by omega) (by decide) (fun c_45 => ?_) (fun c_45 => ?_)
      · refine lv_aload_n hx hb dX3_close_64 rfl (lv_at hl 0 rfl) ?_
        refine rw_getR hx hb hts hown hW 17 lk_17 0 18 rfl fX3_12 dX3_close_65 ?_
        refine rw_iconst hx hb dX3_close_68 ?_
        refine rw_putI hx hb hts hown hW 18 lk_18 1 1 rfl rfl qX3_48 (v := 0) dX3_close_69 (fun H locs hW => ?_)
        obtain ⟨M4, hM4⟩ : ∃ z, z = upd2 M 18 1 0 := ⟨_, rfl⟩
        rw [← hM4] at hW
        refine rw_vret hx hb hr hlocks hW dX3_close_72 (⟨rfl, ?_⟩)
        exact hR.closeC c_4 c_18 (fun q j z1 z2 => by rw [hM4, upd2_at, if_neg (by omega)]) (by rw [hM4, upd2_eq]) (by rw [hM4, upd2_ne1 (by decide), if_neg (by omega)])
      · refine lv_aload_n hx hb dX3_close_48 rfl (lv_at hl 0 rfl) ?_
        refine rw_getR hx hb hts hown hW 17 lk_17 1 20 rfl fX3_21 dX3_close_49 ?_
        refine lv_aload_n hx hb dX3_close_52 rfl (lv_at hl 0 rfl) ?_
        refine rw_getR hx hb hts hown hW 17 lk_17 1 20 rfl fX3_21 dX3_close_53 ?_
        refine rw_getI hx hb hts hown hW 20 fk_20.1 0 0 rfl rfl fX3_45 dX3_close_56 (v := (M 20 0)) rfl ?_
        refine rw_iconst hx hb dX3_close_59 ?_
        refine rw_idiv hx hb dX3_close_60 (by omega) (by decide) (by decide) rfl ?_
        rw [show Int.tdiv (M 20 0) 2 = M 20 0 / 2 from by rw [Int.tdiv_eq_ediv_of_nonneg (by omega)]]
        refine rw_putI hx hb hts hown hW 20 fk_20.1 1 1 rfl rfl qX3_35 (v := M 20 0 / 2) dX3_close_61 (fun H locs hW => ?_)
        obtain ⟨M5, hM5⟩ : ∃ z, z = upd2 M 20 1 (M 20 0 / 2) := ⟨_, rfl⟩
        rw [← hM5] at hW
        refine lv_aload_n hx hb dX3_close_64 rfl (lv_at hl 0 rfl) ?_
        refine rw_getR hx hb hts hown hW 17 lk_17 0 18 rfl fX3_12 dX3_close_65 ?_
        refine rw_iconst hx hb dX3_close_68 ?_
        refine rw_putI hx hb hts hown hW 18 lk_18 1 1 rfl rfl qX3_48 (v := 0) dX3_close_69 (fun H locs hW => ?_)
        obtain ⟨M6, hM6⟩ : ∃ z, z = upd2 M5 18 1 0 := ⟨_, rfl⟩
        rw [← hM6] at hW
        refine rw_vret hx hb hr hlocks hW dX3_close_72 (⟨rfl, ?_⟩)
        exact hR.closeC c_4 c_18 (fun q j z1 z2 => by rw [hM6, upd2_at, if_neg (by omega), hM5, upd2_at, if_neg (by omega)]) (by rw [hM6, upd2_eq]) (by rw [hM6, upd2_ne1 (by decide), hM5, upd2_eq, if_pos (by omega)])
    · refine lv_aload_n hx hb dX3_close_21 rfl (lv_at hl 0 rfl) ?_
      refine rw_iconst hx hb dX3_close_22 ?_
      refine rw_putI hx hb hts hown hW 17 lk_17 4 4 rfl rfl qX3_42 (v := 5) dX3_close_23 (fun H locs hW => ?_)
      obtain ⟨M7, hM7⟩ : ∃ z, z = upd2 M 17 4 5 := ⟨_, rfl⟩
      rw [← hM7] at hW
      refine lv_aload_n hx hb dX3_close_26 rfl (lv_at hl 0 rfl) ?_
      refine lv_aload_n hx hb dX3_close_27 rfl (lv_at hl 0 rfl) ?_
      refine rw_getR hx hb hts hown hW 17 lk_17 0 18 rfl fX3_12 dX3_close_28 ?_
      refine rw_getI hx hb hts hown hW 18 lk_18 1 1 rfl rfl fX3_48 dX3_close_31 (v := (M 18 1)) (by rw [hM7, upd2_ne1 (by omega)]) ?_
      refine rw_putI hx hb hts hown hW 17 lk_17 5 5 rfl rfl qX3_51 (v := (M 18 1)) dX3_close_34 (fun H locs hW => ?_)
      obtain ⟨M8, hM8⟩ : ∃ z, z = upd2 M7 17 5 (M 18 1) := ⟨_, rfl⟩
      rw [← hM8] at hW
      refine lv_aload_n hx hb dX3_close_37 rfl (lv_at hl 0 rfl) ?_
      refine rw_getR hx hb hts hown hW 17 lk_17 1 20 rfl fX3_21 dX3_close_38 ?_
      refine rw_getI hx hb hts hown hW 20 fk_20.1 1 1 rfl rfl fX3_35 dX3_close_41 (v := (M 20 1)) (by rw [hM8, upd2_ne1 (by omega), hM7, upd2_ne1 (by omega)]) ?_
      refine rw_iconst hx hb dX3_close_44 ?_
      refine rw_icmp_ne (tgt := 64) hx hb dX3_close_45 (by decide) (by omega) (by decide) (fun c_45 => ?_) (fun c_45 => ?_)
      · refine lv_aload_n hx hb dX3_close_64 rfl (lv_at hl 0 rfl) ?_
        refine rw_getR hx hb hts hown hW 17 lk_17 0 18 rfl fX3_12 dX3_close_65 ?_
        refine rw_iconst hx hb dX3_close_68 ?_
        refine rw_putI hx hb hts hown hW 18 lk_18 1 1 rfl rfl qX3_48 (v := 0) dX3_close_69 (fun H locs hW => ?_)
        obtain ⟨M9, hM9⟩ : ∃ z, z = upd2 M8 18 1 0 := ⟨_, rfl⟩
        rw [← hM9] at hW
        refine rw_vret hx hb hr hlocks hW dX3_close_72 (⟨rfl, ?_⟩)
        exact hR.closeB c_4 (by omega) (fun q j z1 z2 z3 => by rw [hM9, upd2_at, if_neg (by omega), hM8, upd2_at, if_neg (by omega), hM7, upd2_at, if_neg (by omega)]) (by rw [hM9, upd2_eq]) (by rw [hM9, upd2_at, if_neg (by omega), hM8, upd2_ne2 (by decide), hM7, upd2_eq]) (by rw [hM9, upd2_at, if_neg (by omega), hM8, upd2_eq])
      · refine lv_aload_n hx hb dX3_close_48 rfl (lv_at hl 0 rfl) ?_
        refine rw_getR hx hb hts hown hW 17 lk_17 1 20 rfl fX3_21 dX3_close_49 ?_
        refine lv_aload_n hx hb dX3_close_52 rfl (lv_at hl 0 rfl) ?_
        refine rw_getR hx hb hts hown hW 17 lk_17 1 20 rfl fX3_21 dX3_close_53 ?_
        refine rw_getI hx hb hts hown hW 20 fk_20.1 0 0 rfl rfl fX3_45 dX3_close_56 (v := (M 20 0)) (by rw [hM8, upd2_ne1 (by omega), hM7, upd2_ne1 (by omega)]) ?_
        refine rw_iconst hx hb dX3_close_59 ?_
        refine rw_idiv hx hb dX3_close_60 (by omega) (by decide) (by decide) rfl ?_
        rw [show Int.tdiv (M 20 0) 2 = M 20 0 / 2 from by rw [Int.tdiv_eq_ediv_of_nonneg (by omega)]]
        refine rw_putI hx hb hts hown hW 20 fk_20.1 1 1 rfl rfl qX3_35 (v := M 20 0 / 2) dX3_close_61 (fun H locs hW => ?_)
        obtain ⟨M10, hM10⟩ : ∃ z, z = upd2 M8 20 1 (M 20 0 / 2) := ⟨_, rfl⟩
        rw [← hM10] at hW
        refine lv_aload_n hx hb dX3_close_64 rfl (lv_at hl 0 rfl) ?_
        refine rw_getR hx hb hts hown hW 17 lk_17 0 18 rfl fX3_12 dX3_close_65 ?_
        refine rw_iconst hx hb dX3_close_68 ?_
        refine rw_putI hx hb hts hown hW 18 lk_18 1 1 rfl rfl qX3_48 (v := 0) dX3_close_69 (fun H locs hW => ?_)
        obtain ⟨M11, hM11⟩ : ∃ z, z = upd2 M10 18 1 0 := ⟨_, rfl⟩
        rw [← hM11] at hW
        refine rw_vret hx hb hr hlocks hW dX3_close_72 (⟨rfl, ?_⟩)
        exact hR.closeB c_4 (by omega) (fun q j z1 z2 z3 => by rw [hM11, upd2_at, if_neg (by omega), hM10, upd2_at, if_neg (by omega), hM8, upd2_at, if_neg (by omega), hM7, upd2_at, if_neg (by omega)]) (by rw [hM11, upd2_eq]) (by rw [hM11, upd2_at, if_neg (by omega), hM10, upd2_at, if_neg (by omega), hM8, upd2_ne2 (by decide), hM7, upd2_eq]) (by rw [hM11, upd2_at, if_neg (by omega), hM10, upd2_at, if_neg (by omega), hM8, upd2_eq])
