/-! each method: both answer alike, and both worlds agree behind -/
def Agree (P1 P2 : Option Value → Mem → Prop) : Prop := ∀ (v : Option Value) (M' : Mem) (v' : Option Value) (S' : Mem), P1 v M' → P2 v' S' → v = v' ∧ RR M' S'
theorem Agree.I {p1 p2 : Int → Mem → Prop} (h : ∀ (a : Int) (M' : Mem) (b : Int) (S' : Mem), p1 a M' → p2 b S' → a = b ∧ RR M' S') : Agree (oI p1) (oI p2) := by
  intro v M' v' S' h1 h2
  obtain ⟨a, rfl, h1⟩ := h1
  obtain ⟨b, rfl, h2⟩ := h2
  obtain ⟨rfl, r⟩ := h a M' b S' h1 h2
  exact ⟨rfl, r⟩
theorem Agree.L {p1 p2 : Int → Mem → Prop} (h : ∀ (a : Int) (M' : Mem) (b : Int) (S' : Mem), p1 a M' → p2 b S' → a = b ∧ RR M' S') : Agree (oL p1) (oL p2) := by
  intro v M' v' S' h1 h2
  obtain ⟨a, rfl, h1⟩ := h1
  obtain ⟨b, rfl, h2⟩ := h2
  obtain ⟨rfl, r⟩ := h a M' b S' h1 h2
  exact ⟨rfl, r⟩
section AG
variable {M S : Mem}
theorem RR.e47 (h : RR M S) : M 1 0 = pg S 0 47 := congrFun h.1.1 47
theorem RR.e27 (h : RR M S) : M 1 1 = pg S 0 27 := congrFun h.1.1 27
theorem RR.e44 (h : RR M S) : M 1 2 = pg S 0 44 := congrFun h.1.1 44
theorem RR.e45 (h : RR M S) : M 1 3 = pg S 0 45 := congrFun h.1.1 45
theorem RR.e46 (h : RR M S) : M 1 4 = pg S 0 46 := congrFun h.1.1 46
theorem RR.sd0 (h : RR M S) : sd M 5 = sdF (pg S 0) 0 := by rw [← h.1.1]; exact (sdF_0 M 1).symm
theorem RR.sd1 (h : RR M S) : sd M 7 = sdF (pg S 0) 1 := by rw [← h.1.1]; exact (sdF_1 M 1).symm
theorem RR.m5 (h : RR M S) : M 5 0 = sdF (pg S 0) 0 0 := congrFun h.sd0 0
theorem RR.m7 (h : RR M S) : M 7 0 = sdF (pg S 0) 1 0 := congrFun h.sd1 0
theorem ag_fault (h : RR M S) : Agree (P_X10_fault M) (P_X11_fault S) := Agree.I (fun a M' b S' h1 h2 => ⟨by rw [h1.1, h2.1]; exact h.2.2.2.2.2.1.1, by rw [h1.2, h2.2]; exact h⟩)
theorem ag_torn (h : RR M S) : Agree (P_X10_torn M) (P_X11_torn S) := Agree.I (fun a M' b S' h1 h2 => ⟨by rw [h1.1, h2.1]; exact h.2.2.2.2.2.1.2, by rw [h1.2, h2.2]; exact h⟩)
theorem ag_rule (h : RR M S) (w : Int) : Agree (P_X10_rule w M) (P_X11_rule w S) := Agree.I (fun a M' b S' h1 h2 => ⟨by rw [h1.1, h2.1, h.e47, h.e27, h.e44, h.e45, h.e46], by rw [h1.2, h2.2]; exact h⟩)
theorem ag_cell (h : RR M S) (i w : Int) : Agree (P_X10_cell i w M) (P_X11_cell i w S) := Agree.I (fun a M' b S' h1 h2 => ⟨by rw [h1.1, h2.1, h.e47, h.1.1], by rw [h1.2, h2.2]; exact h⟩)
theorem ag_side (h : RR M S) (i w : Int) : Agree (P_X10_side i w M) (P_X11_side i w S) := Agree.I (fun a M' b S' h1 h2 => ⟨by rw [h1.1, h2.1, h.1.1], by rw [h1.2, h2.2]; exact h⟩)
theorem ag_sends (h : RR M S) (i : Int) : Agree (P_X10_sends i M) (P_X11_sends i S) := Agree.I (fun a M' b S' h1 h2 => ⟨by rw [h1.1, h2.1, h.e47, h.e27, h.1.1], by rw [h1.2, h2.2]; exact h⟩)
theorem ag_net (h : RR M S) (x y : Int) : Agree (P_X10_net x y M) (P_X11_net x y S) := Agree.I (fun a M' b S' h1 h2 => ⟨by rw [h1.1, h2.1, h.m5, h.m7, h.e47, h.e27, h.1.1], by rw [h1.2, h2.2]; exact h⟩)
theorem ag_count (h : RR M S) (w : Int) : Agree (P_X10_count w M) (P_X11_count w S) := by
  refine Agree.I (fun a M' b S' h1 h2 => ⟨?_, by rw [h1.2, h2.2]; exact h⟩)
  obtain ⟨k0, k1, k2, -, -⟩ := h.2.1
  obtain ⟨s1, s2, -, s4, -⟩ := h.2.2.2.2.1 0 (by decide) (by decide)
  have s1 : M 227 0 = lnR S 0 := s1
  have s2 : M 227 1 = S 12 0 := s2
  have e1 : M 0 9 % 2 + M 0 9 / 2 = S 10 0 + S 10 1 := by omega
  have e3 : (if M 227 0 = -1 then -4 else M 227 1) = (if S 11 0 = -4 then -4 else S 12 0) := by
    rw [s1, s2]; unfold lnR
    by_cases q : S 11 0 = -4
    · rw [if_pos q, if_pos rfl, if_pos q]
    · rw [if_neg q, if_neg (by omega), if_neg q]
  rw [h1.1, h2.1, h.2.2.1.2.1, e1, h.2.2.2.1.1, e3, h.sd0, h.sd1]
theorem RR.set {M' S' : Mem} {ix v : Int} (h : RR M S) (hM : Same M M' 1 8) (h1 : fld M' 1 = setF (fld M 1) ix v) (h2 : pg S' 0 = setF (pg S 0) ix v) (hS : SameS S S' 0) (hi : InvF (setF (fld M 1) ix v)) (hx : ix ≠ 46 ∧ ix ≠ 47) : RR M' S' :=
  h.pageS hM hS h1 (by rw [h2, h.1.1]) hi (by rw [setF_ne _ _ (fun z => hx.1 z.symm)]; exact h.1.2.2) (setF_ne _ _ (fun z => hx.2 z.symm))
theorem ag_room (h : RR M S) (i v : Int) : Agree (P_X10_room i v M) (P_X11_room i v S) := by
  refine Agree.I (fun a M' b S' h1 h2 => ?_)
  rw [h.e47] at h1
  have hc := h.inv.1.1
  rcases h1 with ⟨g1, r1, m1⟩ | ⟨g1, r1, m1⟩ <;> rcases h2 with ⟨g2, r2, m2⟩ | ⟨g2, r2, m2⟩
  · refine ⟨?_, h.set (ix := 3 * i) (v := v) (by rw [m1]; exact upd2_Same (by decide) (by decide)) ?_ m2.1 m2.2 ?_ (by omega)⟩
    · rw [r1, r2, ← h.1.1, fld_r M 1 (by omega)]
    · have q := fld_setcell M 1 i v 1 (by omega) (Or.inl rfl) 0 rfl
      rw [Int.add_zero] at q
      rw [m1]; exact q
    · have q := InvF_cell h.1.2.1 (i := i) (c := 0) (v := v) (by omega) (by omega)
      rw [Int.add_zero] at q; exact q
  · exact absurd g1 g2
  · exact absurd g2 g1
  · exact ⟨by rw [r1, r2], by rw [m1, m2]; exact h⟩
theorem ag_slope (h : RR M S) (i v : Int) : Agree (P_X10_slope i v M) (P_X11_slope i v S) := by
  refine Agree.I (fun a M' b S' h1 h2 => ?_)
  rw [h.e47] at h1
  have hc := h.inv.1.1
  rcases h1 with ⟨g1, r1, m1⟩ | ⟨g1, r1, m1⟩ <;> rcases h2 with ⟨g2, r2, m2⟩ | ⟨g2, r2, m2⟩
  · refine ⟨?_, h.set (ix := 3 * i + 1) (v := v) (by rw [m1]; exact upd2_Same (by decide) (by decide)) ?_ m2.1 m2.2 (InvF_cell h.1.2.1 (by omega) (by omega)) (by omega)⟩
    · rw [r1, r2, ← h.1.1, fld_l M 1 (by omega)]
    · rw [m1]; exact fld_setcell M 1 i v 2 (by omega) (Or.inr (Or.inl rfl)) 1 rfl
  · exact absurd g1 g2
  · exact absurd g2 g1
  · exact ⟨by rw [r1, r2], by rw [m1, m2]; exact h⟩
theorem ag_hedge (h : RR M S) (i v : Int) : Agree (P_X10_hedge i v M) (P_X11_hedge i v S) := by
  refine Agree.I (fun a M' b S' h1 h2 => ?_)
  rw [h.e47] at h1
  have hc := h.inv.1.1
  rcases h1 with ⟨g1, r1, m1⟩ | ⟨g1, r1, m1⟩ <;> rcases h2 with ⟨g2, r2, m2⟩ | ⟨g2, r2, m2⟩
  · refine ⟨?_, h.set (ix := 3 * i + 2) (v := v) (by rw [m1]; exact upd2_Same (by decide) (by decide)) ?_ m2.1 m2.2 (InvF_cell h.1.2.1 (by omega) (by omega)) (by omega)⟩
    · rw [r1, r2, ← h.1.1, fld_h M 1 (by omega)]
    · rw [m1]; exact fld_setcell M 1 i v 3 (by omega) (Or.inr (Or.inr rfl)) 2 rfl
  · exact absurd g1 g2
  · exact absurd g2 g1
  · exact ⟨by rw [r1, r2], by rw [m1, m2]; exact h⟩
theorem RR.sdK (h : RR M S) {s : Int} (hs : s = 0 ∨ s = 1) : sdK M s = sdF (pg S 0) s := by rw [sdK_F M hs, h.1.1]
theorem fld_sdC (M : Mem) {s j jj v : Int} (hs : s = 0 ∨ s = 1) (hj : (j = 0 ∧ jj = 0) ∨ (j = 2 ∧ jj = 5) ∨ (j = 3 ∧ jj = 6) ∨ (j = 4 ∧ jj = 7)) : fld (upd2 M (sdC s) j v) 1 = setF (fld M 1) (28 + 8 * s + jj) v ∧ Same M (upd2 M (sdC s) j v) 1 8 := by
  rcases hs with rfl | rfl
  · rw [sdC_0]; exact ⟨fld_setside M 1 0 j v 4 (Or.inl ⟨rfl, rfl⟩) jj hj, upd2_Same (by decide) (by decide)⟩
  · rw [sdC_1]; exact ⟨fld_setside M 1 1 j v 6 (Or.inr ⟨rfl, rfl⟩) jj hj, upd2_Same (by decide) (by decide)⟩
theorem ag_fool (h : RR M S) (s v : Int) : Agree (P_X10_fool s v M) (P_X11_fool s v S) := by
  refine Agree.I (fun a M' b S' h1 h2 => ?_)
  rcases h1 with ⟨g1, r1, m1⟩ | ⟨g1, r1, m1⟩ <;> rcases h2 with ⟨g2, r2, m2⟩ | ⟨g2, r2, m2⟩
  · have q := fld_sdC M (v := v) g1.1 (j := 2) (jj := 5) (by decide)
    exact ⟨by rw [r1, r2, h.sdK g1.1], h.set (ix := 28 + 8 * s + 5) (v := v) (by rw [m1]; exact q.2) (by rw [m1]; exact q.1) m2.1 m2.2 (InvF_side h.1.2.1 g1.1 (by omega)) (by omega)⟩
  · exact absurd g1 g2
  · exact absurd g2 g1
  · exact ⟨by rw [r1, r2], by rw [m1, m2]; exact h⟩
theorem ag_men (h : RR M S) (s v : Int) : Agree (P_X10_men s v M) (P_X11_men s v S) := by
  refine Agree.I (fun a M' b S' h1 h2 => ?_)
  rcases h1 with ⟨g1, r1, m1⟩ | ⟨g1, r1, m1⟩ <;> rcases h2 with ⟨g2, r2, m2⟩ | ⟨g2, r2, m2⟩
  · have q := fld_sdC M (v := v) g1.1 (j := 0) (jj := 0) (by decide)
    have hr := g2.2
    rw [← h.1.1] at hr
    unfold restS at hr
    exact ⟨by rw [r1, r2, h.sdK g1.1], h.set (ix := 28 + 8 * s + 0) (v := v) (by rw [m1]; exact q.2) (by rw [m1]; exact q.1) m2.1 m2.2 (InvF_side h.1.2.1 g1.1 (by omega)) (by omega)⟩
  · refine absurd ⟨g1.1, ?_⟩ g2
    have := g1.2
    rw [h.sdK g1.1] at this
    exact this
  · refine absurd ⟨g2.1, ?_⟩ g1
    rw [h.sdK g2.1]
    exact g2.2
  · exact ⟨by rw [r1, r2], by rw [m1, m2]; exact h⟩
theorem setF_comm (f : Int → Int) {i j : Int} (v w : Int) (hij : i ≠ j) : setF (setF f i v) j w = setF (setF f j w) i v := by
  funext x
  unfold setF
  by_cases a : x = i
  · subst a; rw [if_neg hij, if_pos rfl, if_pos rfl]
  · by_cases b : x = j
    · subst b; rw [if_pos rfl, if_neg a, if_pos rfl]
    · rw [if_neg b, if_neg a, if_neg a, if_neg b]
theorem ag_captain (h : RR M S) (s kd v : Int) : Agree (P_X10_captain s kd v M) (P_X11_captain s kd v S) := by
  refine Agree.I (fun a M' b S' h1 h2 => ?_)
  rcases h1 with ⟨g1, r1, m1⟩ | ⟨g1, r1, m1⟩ <;> rcases h2 with ⟨g2, r2, m2⟩ | ⟨g2, r2, m2⟩
  · have q := fld_sdC M (v := kd) g1.1 (j := 3) (jj := 6) (by decide)
    have q2 := fld_sdC (upd2 M (sdC s) 3 kd) (v := v) g1.1 (j := 4) (jj := 7) (by decide)
    have i1 := InvF_side h.1.2.1 g1.1 (jj := 6) (v := kd) (by omega)
    have i2 := InvF_side i1 g1.1 (jj := 7) (v := v) (by omega)
    refine ⟨by rw [r1, r2, h.sdK g1.1], h.pageS (f := setF (setF (fld M 1) (28 + 8 * s + 6) kd) (28 + 8 * s + 7) v) (by rw [m1]; exact q.2.trans q2.2) m2.2 (by rw [m1, q2.1, q.1]) (by rw [m2.1, h.1.1]; exact setF_comm _ _ _ (by omega)) i2 ?_ ?_⟩
    · rw [setF_ne _ _ (by omega), setF_ne _ _ (by omega)]; exact h.1.2.2
    · rw [setF_ne _ _ (by omega), setF_ne _ _ (by omega)]
  · exact absurd g1 g2
  · exact absurd g2 g1
  · exact ⟨by rw [r1, r2], by rw [m1, m2]; exact h⟩
theorem ag_rest (h : RR M S) (v : Int) : Agree (P_X10_rest v M) (P_X11_rest v S) := by
  refine Agree.I (fun a M' b S' h1 h2 => ?_)
  rcases h1 with ⟨g1, r1, m1⟩ | ⟨g1, r1, m1⟩ <;> rcases h2 with ⟨g2, r2, m2⟩ | ⟨g2, r2, m2⟩
  · exact ⟨by rw [r1, r2, h.e44], h.set (ix := 44) (v := v) (by rw [m1]; exact upd2_Same (by decide) (by decide)) (by rw [m1]; exact fld_setown M 1 2 44 v (by decide)) m2.1 m2.2 (InvF_own h.1.2.1 (by omega)) (by decide)⟩
  · exact absurd g1 g2
  · exact absurd g2 g1
  · exact ⟨by rw [r1, r2], by rw [m1, m2]; exact h⟩
theorem ag_breaks (h : RR M S) (v : Int) : Agree (P_X10_breaks v M) (P_X11_breaks v S) := by
  refine Agree.I (fun a M' b S' h1 h2 => ?_)
  rcases h1 with ⟨g1, r1, m1⟩ | ⟨g1, r1, m1⟩ <;> rcases h2 with ⟨g2, r2, m2⟩ | ⟨g2, r2, m2⟩
  · exact ⟨by rw [r1, r2, h.e45], h.set (ix := 45) (v := v) (by rw [m1]; exact upd2_Same (by decide) (by decide)) (by rw [m1]; exact fld_setown M 1 3 45 v (by decide)) m2.1 m2.2 (InvF_own h.1.2.1 (by omega)) (by decide)⟩
  · exact absurd g1 g2
  · exact absurd g2 g1
  · exact ⟨by rw [r1, r2], by rw [m1, m2]; exact h⟩
theorem ag_put (h : RR M S) (i : Int) : Agree (P_X10_put i M) (P_X11_put i S) := by
  refine Agree.I (fun a M' b S' h1 h2 => ?_)
  rcases h1 with ⟨g1, r1, m1⟩ | ⟨g1, r1, m1⟩ <;> rcases h2 with ⟨g2, r2, m2⟩ | ⟨g2, r2, m2⟩
  · exact ⟨by rw [r1, r2, h.e27], h.set (ix := 27) (v := i) (by rw [m1]; exact upd2_Same (by decide) (by decide)) (by rw [m1]; exact fld_setown M 1 1 27 i (by decide)) m2.1 m2.2 (InvF_own h.1.2.1 (Or.inl ⟨rfl, Or.inl ⟨g1.1, g1.2⟩⟩)) (by decide)⟩
  · rw [h.e47] at g1; exact absurd g1 g2
  · rw [h.e47] at g1; exact absurd g2 g1
  · exact ⟨by rw [r1, r2], by rw [m1, m2]; exact h⟩
theorem ag_go (h : RR M S) (x y w : Int) : Agree (P_X10_go x y w M) (P_X11_go x y w S) := by
  refine Agree.I (fun a M' b S' h1 h2 => ?_)
  rw [← h.1.1] at h2
  rcases h1 with ⟨g1, m1, s1, r1⟩ | ⟨g1, m1, r1⟩ <;> rcases h2 with ⟨g2, m2, s2, r2⟩ | ⟨g2, m2, r2⟩
  · have q := pass27 h.1.2.1 (w := w) g1
    exact ⟨by rw [r1, r2], h.pageS s1 s2 m1 m2 q.1 q.2.1 rfl⟩
  · exact absurd g1 g2
  · exact absurd g2 g1
  · exact ⟨by rw [r1, r2], by rw [m1, m2]; exact h⟩
theorem ag_ahead (h : RR M S) (n : Int) : Agree (P_X10_ahead n M) (P_X11_ahead n S) := by
  refine Agree.I (fun a M' b S' h1 h2 => ?_)
  rw [h.1.1] at h1
  rcases h1 with ⟨g1, r1, m1⟩ | ⟨g1, r1, m1⟩ <;> rcases h2 with ⟨g2, r2, m2⟩ | ⟨g2, r2, m2⟩
  · exact ⟨by rw [r1, r2], h.scrS m1 (by decide) m2⟩
  · exact absurd g1 g2
  · exact absurd g2 g1
  · exact ⟨by rw [r1, r2], by rw [m1, m2]; exact h⟩
theorem ag_over (h : RR M S) : Agree (P_X10_over M) (P_X11_over S) := by
  refine Agree.I (fun a M' b S' h1 h2 => ?_)
  rw [h.1.1] at h1
  exact ⟨OverF.one h1.1 h2.1, h.scrS h1.2 (by decide) h2.2⟩
theorem ag_table (h : RR M S) (x y n : Int) : Agree (P_X10_table x y n M) (P_X11_table x y n S) := by
  refine Agree.I (fun a M' b S' h1 h2 => ?_)
  rw [h.1.1] at h1
  rcases h1 with ⟨g1, r1, m1⟩ | ⟨g1, r1, m1⟩ <;> rcases h2 with ⟨g2, r2, m2⟩ | ⟨g2, r2, m2⟩
  · exact ⟨by rw [r1, r2], h.scrS m1 (by decide) m2⟩
  · exact absurd g1 g2
  · exact absurd g2 g1
  · exact ⟨by rw [r1, r2], by rw [m1, m2]; exact h⟩
theorem ag_without (h : RR M S) (i n : Int) : Agree (P_X10_without i n M) (P_X11_without i n S) := by
  refine Agree.I (fun a M' b S' h1 h2 => ?_)
  rw [h.1.1, h.e47] at h1
  rcases h1 with ⟨g1, r1, m1⟩ | ⟨g1, r1, m1⟩ <;> rcases h2 with ⟨g2, r2, m2⟩ | ⟨g2, r2, m2⟩
  · exact ⟨by rw [r1, r2], h.scrS m1 (by decide) m2⟩
  · exact absurd g1 g2
  · exact absurd g2 g1
  · exact ⟨by rw [r1, r2], by rw [m1, m2]; exact h⟩
theorem ag_play (h : RR M S) (sd : Int32) (n w : Int) : Agree (P_X10_play sd n w M) (P_X11_play sd n w S) := by
  refine Agree.I (fun a M' b S' h1 h2 => ?_)
  rw [h.1.1] at h1
  rcases h1 with ⟨g1, r1, m1⟩ | ⟨g1, r1, m1⟩ <;> rcases h2 with ⟨g2, r2, m2⟩ | ⟨g2, r2, m2⟩
  · exact ⟨by rw [r1, r2], h.scrS m1 (by decide) m2⟩
  · exact absurd g1 g2
  · exact absurd g2 g1
  · exact ⟨by rw [r1, r2], by rw [m1, m2]; exact h⟩
theorem ag_odds (h : RR M S) (n i w : Int) : Agree (P_X10_odds n i w M) (P_X11_odds n i w S) := by
  refine Agree.L (fun a M' b S' h1 h2 => ?_)
  rw [h.1.1, h.e47] at h1
  rcases h1 with ⟨g1, r1, m1⟩ | ⟨g1, r1, m1⟩ <;> rcases h2 with ⟨g2, r2, m2⟩ | ⟨g2, r2, m2⟩
  · exact ⟨by rw [r1, r2], h.scrS m1 (by decide) m2⟩
  · exact absurd g1 g2
  · exact absurd g2 g1
  · exact ⟨by rw [r1, r2], by rw [m1, m2]; exact h⟩
theorem ag_mean (h : RR M S) (n w : Int) : Agree (P_X10_mean n w M) (P_X11_mean n w S) := by
  refine Agree.L (fun a M' b S' h1 h2 => ?_)
  rw [h.1.1] at h1
  rcases h1 with ⟨g1, r1, m1⟩ | ⟨g1, r1, m1⟩ <;> rcases h2 with ⟨g2, r2, m2⟩ | ⟨g2, r2, m2⟩
  · exact ⟨by rw [r1, r2], h.scrS m1 (by decide) m2⟩
  · exact absurd g1 g2
  · exact absurd g2 g1
  · exact ⟨by rw [r1, r2], by rw [m1, m2]; exact h⟩
theorem ag_hold (h : RR M S) (s i n : Int) : Agree (P_X10_hold s i n M) (P_X11_hold s i n S) := by
  refine Agree.I (fun a M' b S' h1 h2 => ?_)
  rw [h.1.1, h.e47, h.e27] at h1
  rcases h1 with ⟨g1, k1, r1, m1⟩ | ⟨g1, k1, r1, m1⟩ | ⟨g1, r1, m1⟩ <;> rcases h2 with ⟨g2, k2, r2, m2⟩ | ⟨g2, k2, r2, m2⟩ | ⟨g2, r2, m2⟩
  · exact ⟨LeastF.one r1 r2, h.scrS m1 (by decide) m2⟩
  · exfalso; omega
  · exact absurd g1 g2
  · exfalso; omega
  · exact ⟨by rw [r1, r2], by rw [m1, m2]; exact h⟩
  · exact absurd g1 g2
  · exact absurd g2 g1
  · exact absurd g2 g1
  · exact ⟨by rw [r1, r2], by rw [m1, m2]; exact h⟩
theorem RR.toldAt {M' S' : Mem} (h : RR M S) (hM : ∀ (q : Nat) (j : Int), ¬ (207 ≤ q ∧ q ≤ 209) → M' q j = M q j) (hS : ∀ (q : Nat) (j : Int), ¬ (q = 9 ∨ (q = 0 ∧ j = 22)) → S' q j = S q j) (ht : RT M' S') : RR M' S' := by
  obtain ⟨a, b, c, d, e, g, k⟩ := h
  exact ⟨a.frame (fun q j x y => hM q j (by omega)) (hS 0 1 (by omega)) (fun j x y => hS 1 j (by omega)), b.frame (hM 0 9 (by omega)) (fun q j x y => hM q j (by omega)) (by show M' 1 0 = M 1 0; exact hM 1 0 (by omega)) (hS 0 1 (by omega)) (fun j => hS 10 j (by omega)) (fun j x y => hS 1 j (by omega)), ht, d.frame (hM 18 1 (by omega)) (fun j => hM 19 j (by omega)) (hS 0 9 (by omega)) (fun j => hS 4 j (by omega)), e.frame (fun q j x y => hM q j (by omega)) (fun q j x y => hS q j (by omega)), g.frame (hM 17 4 (by omega)) (hM 0 11 (by omega)) (hS 0 10 (by omega)) (hS 0 27 (by omega)), k.frame (fun j => hS 5 j (by omega)) (fun j => hS 6 j (by omega))⟩
theorem ag_tell (h : RR M S) (n i : Int) : Agree (P_X10_tell n i M) (P_X11_tell n i S) := by
  refine Agree.I (fun a M' b S' h1 h2 => ?_)
  obtain ⟨⟨t1, t2⟩, t3, t4⟩ := h.2.2.1
  have hc := h.inv.1.1
  rw [h.e47] at h1
  rw [← t3] at h2
  rcases h1 with ⟨g1, ⟨k1, r1, m1⟩ | ⟨k1, r1, m1⟩⟩ | ⟨g1, r1, m1⟩ <;> rcases h2 with ⟨g2, ⟨k2, r2, m2⟩ | ⟨k2, r2, m2⟩⟩ | ⟨g2, r2, m2⟩
  · refine ⟨by rw [r1, r2], h.toldAt (fun q j hq => ?_) (fun q j hq => ?_) ⟨⟨?_, fun k a0 a1 => ?_⟩, ?_, fun k a0 a1 => ?_⟩⟩
    · rw [m1, upd2_ne1 (by omega), upd2_ne1 (by omega), upd2_ne1 (by omega)]
    · rw [m2, upd2_at, if_neg (by omega), upd2_ne1 (by omega), upd2_ne1 (by omega)]
    · rw [m1, upd2_eq]; omega
    · rw [m1, upd2_eq] at a1
      rw [m1]
      simp only [upd2_at]
      by_cases q : k = M 207 2
      · subst q; simp; omega
      · have := t2 k a0 (by omega); simp [q]; exact this
    · rw [m1, m2, upd2_eq, upd2_eq]
    · rw [m1, upd2_eq] at a1
      rw [m1, m2]
      simp only [upd2_at]
      by_cases q : k = M 207 2
      · subst q; simp; omega
      · have := t4 k a0 (by omega)
        have z1 : ¬ (2 * k = 2 * M 207 2 + 1) := by omega
        have z2 : ¬ (2 * k = 2 * M 207 2) := by omega
        have z3 : ¬ (2 * k + 1 = 2 * M 207 2 + 1) := by omega
        have z4 : ¬ (2 * k + 1 = 2 * M 207 2) := by omega
        simp [q, z1, z2, z3, z4]; exact this
  · exfalso; omega
  · exact absurd g1 g2
  · exfalso; omega
  · exact ⟨by rw [r1, r2], by rw [m1, m2]; exact h⟩
  · exact absurd g1 g2
  · exact absurd g2 g1
  · exact absurd g2 g1
  · exact ⟨by rw [r1, r2], by rw [m1, m2]; exact h⟩
theorem ag_forget (h : RR M S) (n : Int) : Agree (P_X10_forget n M) (P_X11_forget n S) := by
  refine Agree.I (fun a M' b S' h1 h2 => ?_)
  obtain ⟨⟨t1, t2⟩, t3, t4⟩ := h.2.2.1
  rw [← t3] at h2
  rcases h1 with ⟨g1, r1, m1⟩ | ⟨g1, r1, m1⟩ <;> rcases h2 with ⟨g2, r2, m2⟩ | ⟨g2, r2, m2⟩
  · refine ⟨by rw [r1, r2], h.toldAt (fun q j hq => by rw [m1, upd2_ne1 (by omega)]) (fun q j hq => by rw [m2, upd2_at, if_neg (by omega)]) ⟨⟨by rw [m1, upd2_eq]; omega, fun k a0 a1 => ?_⟩, by rw [m1, m2, upd2_eq, upd2_eq], fun k a0 a1 => ?_⟩⟩
    · rw [m1, upd2_eq] at a1
      rw [m1, upd2_ne1 (by decide), upd2_ne1 (by decide)]
      exact t2 k a0 (by omega)
    · rw [m1, upd2_eq] at a1
      rw [m1, m2, upd2_ne1 (by decide), upd2_ne1 (by decide), upd2_ne1 (by decide)]
      exact t4 k a0 (by omega)
  · exact absurd g1 g2
  · exact absurd g2 g1
  · exact ⟨by rw [r1, r2], by rw [m1, m2]; exact h⟩
theorem lies_eq (h : RT M S) (f : Int → Int) : liesN f M = liesR f S := by
  unfold liesN liesR
  rw [h.2.1]
  congr 1
  apply bitsOf_congr
  intro k hk
  have q := h.2.2 k (by omega) (by rw [h.2.1]; omega)
  unfold lieR
  rw [q.1, q.2]
theorem ag_lies (h : RR M S) : Agree (P_X10_lies M) (P_X11_lies S) := by
  refine Agree.I (fun a M' b S' h1 h2 => ?_)
  exact ⟨by rw [h1.1, h2.1, lies_eq h.2.2.1, h.1.1], h.scrS h1.2 (by decide) h2.2⟩
theorem ag_where (h : RR M S) : Agree (P_X10_where M) (P_X11_where S) := by
  refine Agree.I (fun a M' b S' h1 h2 => ⟨?_, h.scrS h1.2 (by decide) h2.2⟩)
  have e : mayI (fld M 1) M = mayR (pg S 0) S := by
    funext i
    unfold mayI mayR
    rw [lies_eq h.2.2.1, h.1.1]
  rw [h1.1, h2.1, e, h.e47]
theorem RR.tapeAt {M' S' : Mem} (h : RR M S) (hM : ∀ (q : Nat) (j : Int), ¬ (q = 18 ∨ q = 19) → M' q j = M q j) (hS : ∀ (q : Nat) (j : Int), ¬ (q = 4 ∨ (q = 0 ∧ j = 9)) → S' q j = S q j) (ht : RA M' S') : RR M' S' := by
  obtain ⟨a, b, c, d, e, g, k⟩ := h
  exact ⟨a.frame (fun q j x y => hM q j (by omega)) (hS 0 1 (by omega)) (fun j x y => hS 1 j (by omega)), b.frame (hM 0 9 (by omega)) (fun q j x y => hM q j (by omega)) (by show M' 1 0 = M 1 0; exact hM 1 0 (by omega)) (hS 0 1 (by omega)) (fun j => hS 10 j (by omega)) (fun j x y => hS 1 j (by omega)), c.frame (fun q j x y => hM q j (by omega)) (hS 0 22 (by omega)) (fun j => hS 9 j (by omega)), ht, e.frame (fun q j x y => hM q j (by omega)) (fun q j x y => hS q j (by omega)), g.frame (hM 17 4 (by omega)) (hM 0 11 (by omega)) (hS 0 10 (by omega)) (hS 0 27 (by omega)), k.frame (fun j => hS 5 j (by omega)) (fun j => hS 6 j (by omega))⟩
theorem ag_end (h : RR M S) (n : Int) : Agree (P_X10_end n M) (P_X11_end n S) := by
  refine Agree.I (fun a M' b S' h1 h2 => ?_)
  obtain ⟨t1, t2, t3⟩ := h.2.2.2.1
  rw [← t1] at h2
  rcases h1 with ⟨g1, r1, m1⟩ | ⟨g1, r1, m1⟩ <;> rcases h2 with ⟨g2, r2, m2⟩ | ⟨g2, r2, m2⟩
  · refine ⟨by rw [r1, r2], h.tapeAt (fun q j hq => by rw [m1, upd2_ne1 (by omega)]) (fun q j hq => by rw [m2, upd2_at, if_neg (by omega)]) ⟨by rw [m1, m2, upd2_eq, upd2_eq], by rw [m2, upd2_eq]; omega, ?_⟩⟩
    rw [m2, upd2_ne1 (by decide), ← t3, m1]
    funext j
    show band (upd2 M 18 1 n 19 j) 255 = band (M 19 j) 255
    rw [upd2_ne1 (by decide)]
  · exact absurd g1 g2
  · exact absurd g2 g1
  · exact ⟨by rw [r1, r2], by rw [m1, m2]; exact h⟩
theorem byt_eq (v : Int64) (sh : Int) : band (bytC v sh) 255 = bytR v sh := by
  unfold band bytC bytR
  rw [byt_and]
theorem ag_feed (h : RR M S) (v : Int64) : Agree (P_X10_feed v M) (P_X11_feed v S) := by
  refine Agree.I (fun a M' b S' h1 h2 => ?_)
  obtain ⟨t1, t2, t3⟩ := h.2.2.2.1
  rcases h1 with ⟨g1, r1, f1, f2, f3, f4⟩ | ⟨g1, r1, m1⟩ <;> rcases h2 with ⟨g2, r2, f5, f6, f7, f8⟩ | ⟨g2, r2, m2⟩
  · refine ⟨by rw [r1, r2, t1], h.tapeAt (fun q j hq => f4 q j (by omega) (by omega)) (fun q j hq => f8 q j (by omega) (by omega)) ⟨by rw [f1, f5, t1], by rw [f5]; omega, ?_⟩⟩
    funext j
    show band (M' 19 j) 255 = S' 4 j
    by_cases q : S 0 9 ≤ j ∧ j < S 0 9 + 8
    · have e1 := f2 (j - M 18 1) (by omega) (by omega)
      have e2 := f6 (j - S 0 9) (by omega) (by omega)
      rw [show M 18 1 + (j - M 18 1) = j by omega] at e1
      rw [show S 0 9 + (j - S 0 9) = j by omega] at e2
      rw [e1, e2, byt_eq, t1]
    · rw [f3 j (by omega), f7 j (by omega), ← t3]; rfl
  · exfalso; omega
  · exfalso; omega
  · exact ⟨by rw [r1, r2], by rw [m1, m2]; exact h⟩
end AG
