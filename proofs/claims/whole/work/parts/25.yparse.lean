section SNW
/-! Y: the parse, reading -/
def sn_src (fs : Int32) (bd sb b : Nat → Int32) : Prop := (fs = 0 ∧ bd = b) ∨ (¬ fs = 0 ∧ sb = b)
theorem sn_refD {s w : Nat} {g g' : sn_G} (e : sn_gRef s w g = some g') : g'.2.2.1 = g.2.2.1 ∧ g'.1 = g.1 + w := by
  obtain ⟨i, c, d, st, K, V, S, oa, ca, sg, dp, pa⟩ := g
  unfold sn_gRef at e
  by_cases z : s = 0
  · rw [if_pos z] at e
    unfold sn_gFin at e
    split at e
    · exact absurd e (by simp)
    · cases e; exact ⟨rfl, rfl⟩
  · rw [if_neg z] at e
    split at e
    · cases e; exact ⟨rfl, rfl⟩
    · unfold sn_gMir at e
      split at e
      · exact absurd e (by simp)
      · cases e; exact ⟨rfl, rfl⟩
theorem sn_cc {α : Type} (k t : Nat) (x : Int32) (a : Option α) (hk : k ≠ 0) (ht : t ≠ 0) : (if k = 0 ∨ x ≠ 125 then none else a) = if t = 0 ∨ x ≠ 125 then none else a := by
  by_cases q : x = 125
  · rw [if_neg (fun w => by rcases w with w | w; exact hk w; exact w q), if_neg (fun w => by rcases w with w | w; exact ht w; exact w q)]
  · rw [if_pos (Or.inr q), if_pos (Or.inr q)]
variable {f_cap f_hcap f_len f_caret f_sel f_bodyLen f_sBodyLen f_merge f_session f_selected f_active f_nItems f_finalIdx f_fromStruct f_baseLen f_baseP f_rlen f_tlen f_clearAll f_svF f_svL f_hCount : Int32} {a_buf a_body a_sBody a_typed a_tLen a_tText a_kind a_val a_stopOf a_par a_ipos a_prim a_stack a_occ a_base a_rbuf a_tbuf a_svT a_hist : Nat → Int32}
variable {g : sn_G} {n m : Nat} {x4 : Int32} {post : Int32 → SY → Prop} {b : Nat → Int32}
theorem sn_ychr {A : Int32 → Prop} {x1 x3 : Int32} (j : Nat) (e1 : x1 = nI n) (e3 : x3 = nI j) (hj : j < 1000) (hn : n ≤ 64) (hb : sn_src f_fromStruct a_body a_sBody b) (h : A (sn_chr b n j)) : (x1 ≤ x3 → A (-1)) ∧ (¬ x1 ≤ x3 → wpY_src A (f_cap, f_hcap, f_len, f_caret, f_sel, f_bodyLen, f_sBodyLen, f_merge, f_session, f_selected, f_active, f_nItems, f_finalIdx, f_fromStruct, f_baseLen, f_baseP, f_rlen, f_tlen, f_clearAll, f_svF, f_svL, f_hCount, a_buf, a_body, a_sBody, a_typed, a_tLen, a_tText, a_kind, a_val, a_stopOf, a_par, a_ipos, a_prim, a_stack, a_occ, a_base, a_rbuf, a_tbuf, a_svT, a_hist) x3) := by
  subst e1 e3
  unfold sn_chr at h
  by_cases z : j < n
  · rw [if_pos z] at h
    refine br_f (nI_ge z (by omega)) ?_
    have v : vp_in (nI j) 64 := vp_in_nI (by omega) (by omega)
    rcases hb with ⟨a, e⟩ | ⟨a, e⟩
    · refine br_t a ⟨v, ?_⟩
      rw [nI_clamp (by omega), e]; exact h
    · refine br_f a ⟨v, ?_⟩
      rw [nI_clamp (by omega), e]; exact h
  · rw [if_neg z] at h
    exact br_t (nI_le (by omega) (by omega)) h
theorem sn_ysrc {A : Int32 → Prop} {x3 : Int32} (j : Nat) (e3 : x3 = nI j) (hj : j < 64) (hb : sn_src f_fromStruct a_body a_sBody b) (h : A (b j)) : wpY_src A (f_cap, f_hcap, f_len, f_caret, f_sel, f_bodyLen, f_sBodyLen, f_merge, f_session, f_selected, f_active, f_nItems, f_finalIdx, f_fromStruct, f_baseLen, f_baseP, f_rlen, f_tlen, f_clearAll, f_svF, f_svL, f_hCount, a_buf, a_body, a_sBody, a_typed, a_tLen, a_tText, a_kind, a_val, a_stopOf, a_par, a_ipos, a_prim, a_stack, a_occ, a_base, a_rbuf, a_tbuf, a_svT, a_hist) x3 := by
  subst e3
  have v : vp_in (nI j) 64 := vp_in_nI (by omega) (by omega)
  rcases hb with ⟨a, e⟩ | ⟨a, e⟩
  · refine br_t a ⟨v, ?_⟩
    rw [nI_clamp (by omega), e]; exact h
  · refine br_f a ⟨v, ?_⟩
    rw [nI_clamp (by omega), e]; exact h
theorem sn_y444 {x10 : Int32} (s t : Nat) (ht : t ≤ 3) (hs : s ≤ 9) (GI : sn_GI n g) (D : sn_YD g f_nItems f_finalIdx a_kind a_val a_stopOf a_par a_prim a_stack a_occ) {r : Option sn_G} (er : r = if t = 0 ∨ x10 ≠ 125 then none else sn_gMir s (4 + t) 6 g) (h : sn_YJ post n m x4 f_cap f_hcap f_len f_caret f_sel f_bodyLen f_sBodyLen f_merge f_session f_selected f_active f_fromStruct f_baseLen f_baseP f_rlen f_tlen f_clearAll f_svF f_svL f_hCount a_buf a_body a_sBody a_typed a_tLen a_tText a_ipos a_base a_rbuf a_tbuf a_svT a_hist (r)) : wY_parse_444 post (wY_parse_64 post (nI n) m) (nI n) (nI g.2.2.1) (nI g.1) x4 (nI s) x10 (nI t) f_cap f_hcap f_len f_caret f_sel f_bodyLen f_sBodyLen f_merge f_session f_selected f_active f_nItems f_finalIdx f_fromStruct f_baseLen f_baseP f_rlen f_tlen f_clearAll f_svF f_svL f_hCount a_buf a_body a_sBody a_typed a_tLen a_tText a_kind a_val a_stopOf a_par a_ipos a_prim a_stack a_occ a_base a_rbuf a_tbuf a_svT a_hist := by
  subst er
  have B := sn_gsB GI
  by_cases t0 : t = 0
  · rw [if_pos (Or.inl t0)] at h
    exact br_t (by rw [t0]; rfl) (h.1 rfl _ _ _ _ _ _ _ _ _)
  · refine br_f (sn_ne t0 (by omega) (by omega)) ?_
    by_cases e : x10 = 125
    · rw [if_neg (fun q => by rcases q with q | q; exact t0 q; exact q e)] at h
      unfold sn_gMir at h
      obtain ⟨i, c, d, st, K, V, S, oa, ca, sg, dp, pa⟩ := g
      obtain ⟨P, g1, g2, g3, g4⟩ := GI
      dsimp only at P g1 g2 g4 B
      have h0 := P.1
      have os := D.2.2 s hs
      have en : f_nItems = nI (sg c) := D.1.1
      subst en
      refine br_t e ?_
      by_cases s0 : s = 0
      · exact br_t (by rw [s0]; rfl) (h.1 (if_pos (Or.inr (Or.inl s0))) _ _ _ _ _ _ _ _ _)
      · refine br_f (sn_ne s0 (by omega) (by omega)) ⟨vp_in_nI (by omega) (by omega), ?_⟩
        rw [nI_clamp (show s < 2 ^ 31 by omega)]
        by_cases oz : oa s = 1000
        · have os' : a_occ s = 0 := by rw [os]; exact if_pos oz
          exact br_t os' (h.1 (if_pos (Or.inr (Or.inr oz))) _ _ _ _ _ _ _ _ _)
        · have os' : ¬ a_occ s = 0 := by
            rw [os]
            show ¬ (if oa s = 1000 then (0 : Int32) else 1) = 0
            rw [if_neg oz]; decide
          refine br_f os' ?_
          by_cases z : 0 < d
          · exact br_f (nI_nle (n := d) z (by omega)) (h.1 (if_pos (Or.inl z)) _ _ _ _ _ _ _ _ _)
          · have d0 : d = 0 := by omega
            subst d0
            refine br_t (by show (0 : Int32) ≤ 0; decide) ?_
            refine sn_yadd (p := sn_yp sg oa (sn_top 0 st)) (sg c) 0 (by omega) rfl (by omega) (fun _ => sn_ytp0 rfl) (fun z => absurd z (by omega)) ?_
            intro y ey w ew
            rw [ey, sn_ad i 6 rfl]
            refine h.2 _ (if_neg (fun y => ?_)) _ _ _ _ _ _ _ _ _ (sn_YDA P D ⟨fun z => by omega, fun z => by omega, fun z => by omega, fun _ => ⟨rfl, by rw [Nat.add_sub_cancel_left]⟩⟩) w ew
            rcases y with y | y | y
            · exact z y
            · exact s0 y
            · exact oz y
    · rw [if_pos (Or.inr e)] at h
      exact br_f e (h.1 rfl _ _ _ _ _ _ _ _ _)
theorem sn_y408 {x9 x10 : Int32} (s : Nat) (hs : s ≤ 9) (GI : sn_GI n g) (D : sn_YD g f_nItems f_finalIdx a_kind a_val a_stopOf a_par a_prim a_stack a_occ) (h : sn_YJ post n m x4 f_cap f_hcap f_len f_caret f_sel f_bodyLen f_sBodyLen f_merge f_session f_selected f_active f_fromStruct f_baseLen f_baseP f_rlen f_tlen f_clearAll f_svF f_svL f_hCount a_buf a_body a_sBody a_typed a_tLen a_tText a_ipos a_base a_rbuf a_tbuf a_svT a_hist (if sn_tk x9 = 0 ∨ x10 ≠ 125 then none else sn_gMir s (sn_tk x9) 6 g)) : wY_parse_408 post (wY_parse_64 post (nI n) m) (nI n) (nI g.2.2.1) (nI g.1) x4 (nI s) x9 x10 f_cap f_hcap f_len f_caret f_sel f_bodyLen f_sBodyLen f_merge f_session f_selected f_active f_nItems f_finalIdx f_fromStruct f_baseLen f_baseP f_rlen f_tlen f_clearAll f_svF f_svL f_hCount a_buf a_body a_sBody a_typed a_tLen a_tText a_kind a_val a_stopOf a_par a_ipos a_prim a_stack a_occ a_base a_rbuf a_tbuf a_svT a_hist := by
  by_cases a : x9 = 117
  · have e : sn_tk x9 = 5 := by unfold sn_tk; rw [if_pos a]
    rw [e] at h
    exact br_t a (sn_y444 s 1 (by omega) hs GI D (sn_cc 5 1 _ _ (by omega) (by omega)) h)
  · refine br_f a ?_
    by_cases b : x9 = 108
    · have e : sn_tk x9 = 6 := by unfold sn_tk; rw [if_neg a, if_pos b]
      rw [e] at h
      exact br_t b (sn_y444 s 2 (by omega) hs GI D (sn_cc 6 2 _ _ (by omega) (by omega)) h)
    · refine br_f b ?_
      by_cases c : x9 = 99
      · have e : sn_tk x9 = 7 := by unfold sn_tk; rw [if_neg a, if_neg b, if_pos c]
        rw [e] at h
        exact br_t c (sn_y444 s 3 (by omega) hs GI D (sn_cc 7 3 _ _ (by omega) (by omega)) h)
      · have e : sn_tk x9 = 0 := by unfold sn_tk; rw [if_neg a, if_neg b, if_neg c]
        rw [e, if_pos (Or.inl rfl)] at h
        refine br_f c (sn_y444 s 0 (by omega) hs GI D (if_pos (Or.inl rfl)).symm h)
theorem sn_y388 {x9 : Int32} (s : Nat) (hs : s ≤ 9) (GI : sn_GI n g) (D : sn_YD g f_nItems f_finalIdx a_kind a_val a_stopOf a_par a_prim a_stack a_occ) (hb : sn_src f_fromStruct a_body a_sBody b) (h : sn_YJ post n m x4 f_cap f_hcap f_len f_caret f_sel f_bodyLen f_sBodyLen f_merge f_session f_selected f_active f_fromStruct f_baseLen f_baseP f_rlen f_tlen f_clearAll f_svF f_svL f_hCount a_buf a_body a_sBody a_typed a_tLen a_tText a_ipos a_base a_rbuf a_tbuf a_svT a_hist (if sn_tk x9 = 0 ∨ (sn_chr b n (sn_gI g + 5)) ≠ 125 then none else sn_gMir s (sn_tk x9) 6 g)) : wY_parse_388 post (wY_parse_64 post (nI n) m) (nI n) (nI g.2.2.1) (nI g.1) x4 (nI s) x9 f_cap f_hcap f_len f_caret f_sel f_bodyLen f_sBodyLen f_merge f_session f_selected f_active f_nItems f_finalIdx f_fromStruct f_baseLen f_baseP f_rlen f_tlen f_clearAll f_svF f_svL f_hCount a_buf a_body a_sBody a_typed a_tLen a_tText a_kind a_val a_stopOf a_par a_ipos a_prim a_stack a_occ a_base a_rbuf a_tbuf a_svT a_hist := by
  have n64 := GI.2.2.2.1
  have gn := GI.2.2.1
  have hg : sn_gI g = g.1 := rfl
  exact sn_ychr (A := fun r => wY_parse_408 post (wY_parse_64 post (nI n) m) (nI n) (nI g.2.2.1) (nI g.1) x4 (nI s) x9 r f_cap f_hcap f_len f_caret f_sel f_bodyLen f_sBodyLen f_merge f_session f_selected f_active f_nItems f_finalIdx f_fromStruct f_baseLen f_baseP f_rlen f_tlen f_clearAll f_svF f_svL f_hCount a_buf a_body a_sBody a_typed a_tLen a_tText a_kind a_val a_stopOf a_par a_ipos a_prim a_stack a_occ a_base a_rbuf a_tbuf a_svT a_hist) (sn_gI g + 5) rfl (sn_ad _ 5 rfl) (by omega) n64 hb (sn_y408 s hs GI D h)
theorem sn_y235 {x7 : Int32} (e7 : x7 = (sn_chr b n (sn_gI g + 2))) (GI : sn_GI n g) (D : sn_YD g f_nItems f_finalIdx a_kind a_val a_stopOf a_par a_prim a_stack a_occ) (hb : sn_src f_fromStruct a_body a_sBody b) (h : sn_YJ post n m x4 f_cap f_hcap f_len f_caret f_sel f_bodyLen f_sBodyLen f_merge f_session f_selected f_active f_fromStruct f_baseLen f_baseP f_rlen f_tlen f_clearAll f_svF f_svL f_hCount a_buf a_body a_sBody a_typed a_tLen a_tText a_ipos a_base a_rbuf a_tbuf a_svT a_hist (if 48 ≤ (sn_chr b n (sn_gI g + 2)) ∧ (sn_chr b n (sn_gI g + 2)) ≤ 57 then sn_gBr b n (sn_dg (sn_chr b n (sn_gI g + 2))) g else none)) : wY_parse_235 post (wY_parse_64 post (nI n) m) (nI n) (nI g.2.2.1) (nI g.1) x4 x7 (sn_chr b n (sn_gI g + 3)) f_cap f_hcap f_len f_caret f_sel f_bodyLen f_sBodyLen f_merge f_session f_selected f_active f_nItems f_finalIdx f_fromStruct f_baseLen f_baseP f_rlen f_tlen f_clearAll f_svF f_svL f_hCount a_buf a_body a_sBody a_typed a_tLen a_tText a_kind a_val a_stopOf a_par a_ipos a_prim a_stack a_occ a_base a_rbuf a_tbuf a_svT a_hist := by
  have n64 := GI.2.2.2.1
  have gn := GI.2.2.1
  have hg : sn_gI g = g.1 := rfl
  subst e7
  by_cases a : (sn_chr b n (sn_gI g + 2)) < 48
  · rw [if_neg (fun z => absurd a (Int32.not_lt.mpr z.1))] at h
    exact br_t a (h.1 rfl _ _ _ _ _ _ _ _ _)
  · by_cases a2 : (sn_chr b n (sn_gI g + 2)) ≤ 57
    · have r := Int32.not_lt.mp a
      rw [if_pos ⟨r, a2⟩] at h
      have d9 := sn_dg9 r a2
      unfold sn_gBr at h
      refine br_f a (br_t a2 (fun s es => ?_))
      rw [d9.2.2] at es
      subst es
      by_cases k125 : (sn_chr b n (sn_gI g + 3)) = 125
      · rw [if_pos k125] at h
        refine br_t k125 ?_
        refine sn_yRef (w := 4) _ rfl rfl d9.2.1 GI D ⟨fun e ni fi ki va so pr pm sk oc => br_t rfl (h.1 e ni fi ki va so pr pm sk oc), fun g' e ni fi ki va so pr pm sk oc D' => br_f (by decide) (fun y ey z ez => ?_)⟩
        have q := sn_refD e
        rw [ey, sn_ad _ 4 rfl, ← q.2, ← q.1]
        exact h.2 g' e ni fi ki va so pr pm sk oc D' z ez
      · rw [if_neg k125] at h
        refine br_f k125 ?_
        by_cases k58 : (sn_chr b n (sn_gI g + 3)) = 58
        · rw [if_pos k58] at h
          refine br_t k58 ?_
          unfold sn_gOpn at h
          have B := sn_gsB GI
          generalize sn_dg (sn_chr b n (sn_gI g + 2)) = s at d9 h
          obtain ⟨i, c, d, st, K, V, S, oa, ca, sg, dp, pa⟩ := g
          obtain ⟨P, g1, g2, g3, g4⟩ := GI
          dsimp only at P g1 g2 g4 B
          have h0 := P.1
          have s9 := d9.2.1
          have os := D.2.2 s s9
          have en : f_nItems = nI (sg c) := D.1.1
          subst en
          by_cases s0 : s = 0
          · exact br_t (by rw [s0]; rfl) (h.1 (if_pos (Or.inl s0)) _ _ _ _ _ _ _ _ _)
          · refine br_f (sn_ne s0 (by omega) (by omega)) ⟨vp_in_nI (by omega) (by omega), ?_⟩
            rw [nI_clamp (show s < 2 ^ 31 by omega)]
            by_cases oz : oa s = 1000
            · have os' : a_occ s = 0 := by rw [os]; exact if_pos oz
              refine br_t os' ?_
              by_cases d4 : 4 ≤ d
              · exact br_f (nI_nlt (a := d) (b := 4) d4 (by omega)) (h.1 (if_pos (Or.inr (Or.inr d4))) _ _ _ _ _ _ _ _ _)
              · refine br_t (nI_lt (a := d) (b := 4) (by omega) (by omega)) ⟨vp_in_nI (by omega) (by omega), fun y ey => ⟨vp_in_nI (by omega) (by omega), fun z ez => ?_⟩⟩
                rw [sn_nar1] at ey
                subst ey ez
                refine sn_yadd (p := sn_yp sg oa (sn_top d st)) (sg c) d (by omega) rfl g4 (fun z => sn_ytp0 z) (fun z => sn_ysk P D.2.1 z) ?_
                refine ⟨vp_in_nI (n := d) (by omega) (by omega), fun y1 e1 y2 e2 y3 e3 y4 e4 => ?_⟩
                rw [nI_clamp (show d < 2 ^ 31 by omega), nI_pred] at e1
                rw [e1, e2, e3, nI_1, sn_ad i 4 rfl]
                refine h.2 _ (if_neg (fun y => ?_)) _ _ _ _ _ _ _ _ _ (sn_YDO P D (by omega) oz (Or.inr rfl)) y4 e4
                rcases y with y | y | y
                · exact s0 y
                · exact y oz
                · exact d4 y
            · have os' : ¬ a_occ s = 0 := by
                rw [os]
                show ¬ (if oa s = 1000 then (0 : Int32) else 1) = 0
                rw [if_neg oz]; decide
              exact br_f os' (h.1 (if_pos (Or.inr (Or.inl oz))) _ _ _ _ _ _ _ _ _)
        · rw [if_neg k58] at h
          refine br_f k58 ?_
          by_cases k47 : (sn_chr b n (sn_gI g + 3)) = 47
          · rw [if_pos k47] at h
            refine br_t k47 ?_
            unfold sn_gTr at h
            exact sn_ychr (A := fun r => wY_parse_388 post (wY_parse_64 post (nI n) m) (nI n) (nI g.2.2.1) (nI g.1) x4 (nI (sn_dg (sn_chr b n (sn_gI g + 2)))) r f_cap f_hcap f_len f_caret f_sel f_bodyLen f_sBodyLen f_merge f_session f_selected f_active f_nItems f_finalIdx f_fromStruct f_baseLen f_baseP f_rlen f_tlen f_clearAll f_svF f_svL f_hCount a_buf a_body a_sBody a_typed a_tLen a_tText a_kind a_val a_stopOf a_par a_ipos a_prim a_stack a_occ a_base a_rbuf a_tbuf a_svT a_hist) (sn_gI g + 4) rfl (sn_ad _ 4 rfl) (by omega) n64 hb (sn_y388 _ d9.2.1 GI D hb h)
          · rw [if_neg k47] at h
            exact br_f k47 (h.1 rfl _ _ _ _ _ _ _ _ _)
    · rw [if_neg (fun z => a2 z.2)] at h
      exact br_f a (br_f a2 (h.1 rfl _ _ _ _ _ _ _ _ _))
theorem sn_y190 {x6 : Int32} (e6 : x6 = (sn_chr b n (sn_gI g + 1))) (GI : sn_GI n g) (D : sn_YD g f_nItems f_finalIdx a_kind a_val a_stopOf a_par a_prim a_stack a_occ) (hb : sn_src f_fromStruct a_body a_sBody b) (h : sn_YJ post n m x4 f_cap f_hcap f_len f_caret f_sel f_bodyLen f_sBodyLen f_merge f_session f_selected f_active f_fromStruct f_baseLen f_baseP f_rlen f_tlen f_clearAll f_svF f_svL f_hCount a_buf a_body a_sBody a_typed a_tLen a_tText a_ipos a_base a_rbuf a_tbuf a_svT a_hist (if (sn_chr b n (sn_gI g + 1)) = 123 ∧ 48 ≤ (sn_chr b n (sn_gI g + 2)) ∧ (sn_chr b n (sn_gI g + 2)) ≤ 57 then sn_gBr b n (sn_dg (sn_chr b n (sn_gI g + 2))) g else none)) : wY_parse_190 post (wY_parse_64 post (nI n) m) (nI n) (nI g.2.2.1) (nI g.1) x4 x6 f_cap f_hcap f_len f_caret f_sel f_bodyLen f_sBodyLen f_merge f_session f_selected f_active f_nItems f_finalIdx f_fromStruct f_baseLen f_baseP f_rlen f_tlen f_clearAll f_svF f_svL f_hCount a_buf a_body a_sBody a_typed a_tLen a_tText a_kind a_val a_stopOf a_par a_ipos a_prim a_stack a_occ a_base a_rbuf a_tbuf a_svT a_hist := by
  have n64 := GI.2.2.2.1
  have gn := GI.2.2.1
  have hg : sn_gI g = g.1 := rfl
  subst e6
  by_cases a : (sn_chr b n (sn_gI g + 1)) = 123
  · have h' : sn_YJ post n m x4 f_cap f_hcap f_len f_caret f_sel f_bodyLen f_sBodyLen f_merge f_session f_selected f_active f_fromStruct f_baseLen f_baseP f_rlen f_tlen f_clearAll f_svF f_svL f_hCount a_buf a_body a_sBody a_typed a_tLen a_tText a_ipos a_base a_rbuf a_tbuf a_svT a_hist (if 48 ≤ (sn_chr b n (sn_gI g + 2)) ∧ (sn_chr b n (sn_gI g + 2)) ≤ 57 then sn_gBr b n (sn_dg (sn_chr b n (sn_gI g + 2))) g else none) := by
      by_cases z : 48 ≤ (sn_chr b n (sn_gI g + 2)) ∧ (sn_chr b n (sn_gI g + 2)) ≤ 57
      · rw [if_pos z]; rw [if_pos ⟨a, z⟩] at h; exact h
      · rw [if_neg z]; rw [if_neg (fun w => z w.2)] at h; exact h
    refine br_t a ?_
    refine sn_ychr (A := fun r => wY_parse_215 post (wY_parse_64 post (nI n) m) (nI n) (nI g.2.2.1) (nI g.1) x4 r f_cap f_hcap f_len f_caret f_sel f_bodyLen f_sBodyLen f_merge f_session f_selected f_active f_nItems f_finalIdx f_fromStruct f_baseLen f_baseP f_rlen f_tlen f_clearAll f_svF f_svL f_hCount a_buf a_body a_sBody a_typed a_tLen a_tText a_kind a_val a_stopOf a_par a_ipos a_prim a_stack a_occ a_base a_rbuf a_tbuf a_svT a_hist) (sn_gI g + 2) rfl (sn_ad _ 2 rfl) (by omega) n64 hb ?_
    exact sn_ychr (A := fun r => wY_parse_235 post (wY_parse_64 post (nI n) m) (nI n) (nI g.2.2.1) (nI g.1) x4 (sn_chr b n (sn_gI g + 2)) r f_cap f_hcap f_len f_caret f_sel f_bodyLen f_sBodyLen f_merge f_session f_selected f_active f_nItems f_finalIdx f_fromStruct f_baseLen f_baseP f_rlen f_tlen f_clearAll f_svF f_svL f_hCount a_buf a_body a_sBody a_typed a_tLen a_tText a_kind a_val a_stopOf a_par a_ipos a_prim a_stack a_occ a_base a_rbuf a_tbuf a_svT a_hist) (sn_gI g + 3) rfl (sn_ad _ 3 rfl) (by omega) n64 hb (sn_y235 rfl GI D hb h')
  · rw [if_neg (fun w => a w.1)] at h
    exact br_f a (h.1 rfl _ _ _ _ _ _ _ _ _)
theorem sn_y101 (hlt : sn_gI g < n) (GI : sn_GI n g) (D : sn_YD g f_nItems f_finalIdx a_kind a_val a_stopOf a_par a_prim a_stack a_occ) (hb : sn_src f_fromStruct a_body a_sBody b) (h : sn_YJ post n m x4 f_cap f_hcap f_len f_caret f_sel f_bodyLen f_sBodyLen f_merge f_session f_selected f_active f_fromStruct f_baseLen f_baseP f_rlen f_tlen f_clearAll f_svF f_svL f_hCount a_buf a_body a_sBody a_typed a_tLen a_tText a_ipos a_base a_rbuf a_tbuf a_svT a_hist (sn_gStep b n g)) : wY_parse_101 post (wY_parse_64 post (nI n) m) (nI n) (nI g.2.2.1) (nI g.1) x4 (b (sn_gI g)) (sn_chr b n (sn_gI g + 1)) f_cap f_hcap f_len f_caret f_sel f_bodyLen f_sBodyLen f_merge f_session f_selected f_active f_nItems f_finalIdx f_fromStruct f_baseLen f_baseP f_rlen f_tlen f_clearAll f_svF f_svL f_hCount a_buf a_body a_sBody a_typed a_tLen a_tText a_kind a_val a_stopOf a_par a_ipos a_prim a_stack a_occ a_base a_rbuf a_tbuf a_svT a_hist := by
  have n64 := GI.2.2.2.1
  have gn := GI.2.2.1
  have hg : sn_gI g = g.1 := rfl
  have B := sn_gsB GI
  have c65 : g.2.1 < 65 := by omega
  have en : f_nItems = nI (g.2.2.2.2.2.2.2.2.2.1 g.2.1) := D.1.1
  unfold sn_gStep at h
  by_cases b92 : b (sn_gI g) = 92
  · rw [if_pos b92] at h
    unfold sn_gEsc at h
    refine br_t b92 ?_
    have J : (sn_chr b n (sn_gI g + 1)) = 36 ∨ (sn_chr b n (sn_gI g + 1)) = 92 ∨ (sn_chr b n (sn_gI g + 1)) = 125 → wY_parse_133 post (wY_parse_64 post (nI n) m) (nI n) (nI g.2.2.1) (nI g.1) x4 (sn_chr b n (sn_gI g + 1)) f_cap f_hcap f_len f_caret f_sel f_bodyLen f_sBodyLen f_merge f_session f_selected f_active f_nItems f_finalIdx f_fromStruct f_baseLen f_baseP f_rlen f_tlen f_clearAll f_svF f_svL f_hCount a_buf a_body a_sBody a_typed a_tLen a_tText a_kind a_val a_stopOf a_par a_ipos a_prim a_stack a_occ a_base a_rbuf a_tbuf a_svT a_hist := by
      intro q
      rw [if_pos q] at h
      generalize (sn_chr b n (sn_gI g + 1)) = ch at h
      obtain ⟨i, c, d, st, K, V, S, oa, ca, sg, dp, pa⟩ := g
      obtain ⟨P, g1, g2, g3, g4⟩ := GI
      dsimp only at P g1 g2 g4 B en
      subst en
      unfold wY_parse_133
      refine sn_yadd (p := sn_yp sg oa (sn_top d st)) (sg c) d (by omega) rfl g4 (fun z => sn_ytp0 z) (fun z => sn_ysk P D.2.1 z) ?_
      intro y ey w ew
      rw [ey, sn_ad i 2 rfl]
      exact h.2 _ rfl _ _ _ _ _ _ _ _ _ (sn_YDA P D ⟨fun _ => ⟨rfl, rfl⟩, fun z => by omega, fun z => by omega, fun z => by omega⟩) w ew
    by_cases a : (sn_chr b n (sn_gI g + 1)) = 36
    · exact br_t a (J (Or.inl a))
    · refine br_f a ?_
      by_cases a2 : (sn_chr b n (sn_gI g + 1)) = 92
      · exact br_t a2 (J (Or.inr (Or.inl a2)))
      · refine br_f a2 ?_
        by_cases a3 : (sn_chr b n (sn_gI g + 1)) = 125
        · exact br_t a3 (J (Or.inr (Or.inr a3)))
        · rw [if_neg (fun q => by rcases q with q | q | q; exact a q; exact a2 q; exact a3 q)] at h
          exact br_f a3 (h.1 rfl _ _ _ _ _ _ _ _ _)
  · rw [if_neg b92] at h
    refine br_f b92 ?_
    by_cases b36 : b (sn_gI g) = 36
    · rw [if_pos b36] at h
      unfold sn_gStp at h
      refine br_t b36 ?_
      by_cases a : (sn_chr b n (sn_gI g + 1)) < 48
      · rw [if_neg (fun z => absurd a (Int32.not_lt.mpr z.1))] at h
        exact br_t a (sn_y190 rfl GI D hb h)
      · refine br_f a ?_
        by_cases a2 : 57 < (sn_chr b n (sn_gI g + 1))
        · rw [if_neg (fun z => absurd a2 (Int32.not_lt.mpr z.2))] at h
          exact br_t a2 (sn_y190 rfl GI D hb h)
        · have r1 := Int32.not_lt.mp a
          have r2 := Int32.not_lt.mp a2
          have d9 := sn_dg9 r1 r2
          rw [if_pos ⟨r1, r2⟩] at h
          refine br_f a2 ?_
          refine sn_yRef (w := 2) _ d9.2.2 rfl d9.2.1 GI D ⟨fun e ni fi ki va so pr pm sk oc => br_t rfl (h.1 e ni fi ki va so pr pm sk oc), fun g' e ni fi ki va so pr pm sk oc D' => br_f (by decide) (fun y ey z ez => ?_)⟩
          have q := sn_refD e
          rw [ey, sn_ad _ 2 rfl, ← q.2, ← q.1]
          exact h.2 g' e ni fi ki va so pr pm sk oc D' z ez
    · rw [if_neg b36] at h
      refine br_f b36 ?_
      generalize b (sn_gI g) = ch at h
      by_cases b125 : ch = 125
      · rw [if_pos b125] at h
        unfold sn_gCls at h
        refine br_t b125 ?_
        obtain ⟨i, c, d, st, K, V, S, oa, ca, sg, dp, pa⟩ := g
        obtain ⟨P, g1, g2, g3, g4⟩ := GI
        dsimp only at P g1 g2 g4 B en
        by_cases z : d = 0
        · exact br_t (by rw [z]; rfl) (h.1 (if_pos z) _ _ _ _ _ _ _ _ _)
        · refine br_f (sn_ne (a := d) z (by omega) (by omega)) (fun y ey w ew u eu => ?_)
          obtain ⟨e, rfl⟩ : ∃ e, d = e + 1 := ⟨d - 1, by omega⟩
          rw [pk_m1] at ey
          rw [ey, ew, nI_1]
          exact h.2 _ (if_neg z) _ _ _ _ _ _ _ _ _ (sn_YDC P (by omega) D) u eu
      · rw [if_neg b125] at h
        refine br_f b125 ?_
        obtain ⟨i, c, d, st, K, V, S, oa, ca, sg, dp, pa⟩ := g
        obtain ⟨P, g1, g2, g3, g4⟩ := GI
        dsimp only at P g1 g2 g4 B en
        subst en
        refine sn_yadd (p := sn_yp sg oa (sn_top d st)) (sg c) d (by omega) rfl g4 (fun z => sn_ytp0 z) (fun z => sn_ysk P D.2.1 z) ?_
        intro y ey w ew
        rw [ey, nI_1]
        exact h.2 _ rfl _ _ _ _ _ _ _ _ _ (sn_YDA P D ⟨fun _ => ⟨rfl, rfl⟩, fun z => by omega, fun z => by omega, fun z => by omega⟩) w ew
def sn_YZ (post : Int32 → SY → Prop) (f_cap f_hcap f_len f_caret f_sel f_bodyLen f_sBodyLen f_merge f_session f_selected f_active f_fromStruct f_baseLen f_baseP f_rlen f_tlen f_clearAll f_svF f_svL f_hCount : Int32) (a_buf a_body a_sBody a_typed a_tLen a_tText a_ipos a_base a_rbuf a_tbuf a_svT a_hist : Nat → Int32) (r : Option sn_G) : Prop :=
  (r = none → ∀ (ni fi : Int32) (ki va so pr pm sk oc : Nat → Int32), post 0 (f_cap, f_hcap, f_len, f_caret, f_sel, f_bodyLen, f_sBodyLen, f_merge, f_session, f_selected, f_active, ni, fi, f_fromStruct, f_baseLen, f_baseP, f_rlen, f_tlen, f_clearAll, f_svF, f_svL, f_hCount, a_buf, a_body, a_sBody, a_typed, a_tLen, a_tText, ki, va, so, pr, a_ipos, pm, sk, oc, a_base, a_rbuf, a_tbuf, a_svT, a_hist)) ∧
  (∀ g : sn_G, r = some g → ∀ (ni fi : Int32) (ki va so pr pm sk oc : Nat → Int32), sn_YS g.2.1 g.2.2.2.2.1 g.2.2.2.2.2.1 g.2.2.2.2.2.2.1 g.2.2.2.2.2.2.2.1 g.2.2.2.2.2.2.2.2.2.1 g.2.2.2.2.2.2.2.2.2.2.2 ni fi ki va so pr pm → post 1 (f_cap, f_hcap, f_len, f_caret, f_sel, f_bodyLen, f_sBodyLen, f_merge, f_session, f_selected, f_active, ni, fi, f_fromStruct, f_baseLen, f_baseP, f_rlen, f_tlen, f_clearAll, f_svF, f_svL, f_hCount, a_buf, a_body, a_sBody, a_typed, a_tLen, a_tText, ki, va, so, pr, a_ipos, pm, sk, oc, a_base, a_rbuf, a_tbuf, a_svT, a_hist))
theorem sn_y542 (GI : sn_GI n g) (D : sn_YD g f_nItems f_finalIdx a_kind a_val a_stopOf a_par a_prim a_stack a_occ) (h : sn_YZ post f_cap f_hcap f_len f_caret f_sel f_bodyLen f_sBodyLen f_merge f_session f_selected f_active f_fromStruct f_baseLen f_baseP f_rlen f_tlen f_clearAll f_svF f_svL f_hCount a_buf a_body a_sBody a_typed a_tLen a_tText a_ipos a_base a_rbuf a_tbuf a_svT a_hist (sn_end g)) : wY_parse_542 post (nI g.2.2.1) f_cap f_hcap f_len f_caret f_sel f_bodyLen f_sBodyLen f_merge f_session f_selected f_active f_nItems f_finalIdx f_fromStruct f_baseLen f_baseP f_rlen f_tlen f_clearAll f_svF f_svL f_hCount a_buf a_body a_sBody a_typed a_tLen a_tText a_kind a_val a_stopOf a_par a_ipos a_prim a_stack a_occ a_base a_rbuf a_tbuf a_svT a_hist := by
  have B := sn_gsB GI
  unfold sn_end at h
  obtain ⟨i, c, d, st, K, V, S, oa, ca, sg, dp, pa⟩ := g
  obtain ⟨P, g1, g2, g3, g4⟩ := GI
  dsimp only at P g1 g2 g4 B
  have h0 := P.1
  have oc := sn_oac P.2.2.2.1 0
  have en : f_nItems = nI (sg c) := D.1.1
  have ef : f_finalIdx = if oa 0 = 1000 then -1 else nI (sg (oa 0)) := D.1.2.2.2
  subst en
  by_cases z : 0 < d
  · exact br_f (nI_nle (n := d) z (by omega)) (h.1 (if_pos z) _ _ _ _ _ _ _ _ _)
  · have d0 : d = 0 := by omega
    subst d0
    rw [if_neg (show ¬ 0 < sn_gd (i, c, 0, st, K, V, S, oa, ca, sg, dp, pa) from z)] at h
    refine br_t (by show (0 : Int32) ≤ 0; decide) ?_
    by_cases y : oa 0 = 1000
    · rw [if_pos (show sn_go (i, c, 0, st, K, V, S, oa, ca, sg, dp, pa) 0 = 1000 from y)] at h
      rw [if_pos y] at ef
      refine br_f (by rw [ef]; decide) ?_
      refine sn_yadd (p := sn_yp sg oa (sn_top 0 st)) (sg c) 0 (by omega) rfl (by omega) (fun _ => sn_ytp0 rfl) (fun z => absurd z (by omega)) ?_
      exact h.2 _ rfl _ _ _ _ _ _ _ _ _ (sn_YDF (w := 0) (kk := 4) (vv := 0) P D rfl).1
    · rw [if_neg (show ¬ sn_go (i, c, 0, st, K, V, S, oa, ca, sg, dp, pa) 0 = 1000 from y)] at h
      rw [if_neg y] at ef
      have so := sn_sgx P.2.1 (show oa 0 ≤ c by omega)
      exact br_t (by rw [ef]; exact nI_pos' (by omega)) (h.2 _ rfl _ _ _ _ _ _ _ _ _ D.1)
theorem sn_y64 (hb : sn_src f_fromStruct a_body a_sBody b) : ∀ (k m s : Nat) (g : sn_G), s + k = 64 → k < m → sn_GI n g → ∀ (f_nItems f_finalIdx : Int32) (a_kind a_val a_stopOf a_par a_prim a_stack a_occ : Nat → Int32), sn_YD g f_nItems f_finalIdx a_kind a_val a_stopOf a_par a_prim a_stack a_occ →
    sn_YZ post f_cap f_hcap f_len f_caret f_sel f_bodyLen f_sBodyLen f_merge f_session f_selected f_active f_fromStruct f_baseLen f_baseP f_rlen f_tlen f_clearAll f_svF f_svL f_hCount a_buf a_body a_sBody a_typed a_tLen a_tText a_ipos a_base a_rbuf a_tbuf a_svT a_hist ((sn_run b n k g).bind sn_end) → wY_parse_64 post (nI n) m (nI g.2.2.1) (nI g.1) (nI s) f_cap f_hcap f_len f_caret f_sel f_bodyLen f_sBodyLen f_merge f_session f_selected f_active f_nItems f_finalIdx f_fromStruct f_baseLen f_baseP f_rlen f_tlen f_clearAll f_svF f_svL f_hCount a_buf a_body a_sBody a_typed a_tLen a_tText a_kind a_val a_stopOf a_par a_ipos a_prim a_stack a_occ a_base a_rbuf a_tbuf a_svT a_hist := by
  intro k
  induction k with
  | zero =>
    intro m s g hs hm GI f_nItems f_finalIdx a_kind a_val a_stopOf a_par a_prim a_stack a_occ D h
    obtain ⟨m, rfl⟩ : ∃ j, m = j + 1 := ⟨m - 1, by omega⟩
    obtain rfl : s = 64 := by omega
    exact br_t (by decide) (sn_y542 GI D h)
  | succ k ih =>
    intro m s g hs hm GI f_nItems f_finalIdx a_kind a_val a_stopOf a_par a_prim a_stack a_occ D h
    obtain ⟨m, rfl⟩ : ∃ j, m = j + 1 := ⟨m - 1, by omega⟩
    have n64 := GI.2.2.2.1
    have hg : sn_gI g = g.1 := rfl
    have gn : g.1 ≤ n := GI.2.2.1
    rw [sn_run] at h
    refine br_f (nI_ge (a := s) (b := 64) (by omega) (by omega)) ?_
    by_cases z : sn_gI g < n
    · rw [if_pos z] at h
      refine br_f (nI_ge (by omega) (by omega)) ?_
      refine sn_ysrc (sn_gI g) rfl (by omega) hb ?_
      refine sn_ychr (A := fun r => wY_parse_101 post (wY_parse_64 post (nI n) m) (nI n) (nI g.2.2.1) (nI g.1) (nI s) (b (sn_gI g)) r f_cap f_hcap f_len f_caret f_sel f_bodyLen f_sBodyLen f_merge f_session f_selected f_active f_nItems f_finalIdx f_fromStruct f_baseLen f_baseP f_rlen f_tlen f_clearAll f_svF f_svL f_hCount a_buf a_body a_sBody a_typed a_tLen a_tText a_kind a_val a_stopOf a_par a_ipos a_prim a_stack a_occ a_base a_rbuf a_tbuf a_svT a_hist) (sn_gI g + 1) rfl (nI_1 _) (by omega) n64 hb ?_
      refine sn_y101 z GI D hb ⟨fun e ni fi ki va so pr pm sk oc => ?_, fun g' e ni fi ki va so pr pm sk oc D' y ey => ?_⟩
      · exact h.1 (by rw [e]; rfl) ni fi ki va so pr pm sk oc
      · rw [ey, nI_1]
        refine ih m (s + 1) g' (by omega) (by omega) (sn_stepI GI z e) ni fi ki va so pr pm sk oc D' ?_
        rw [e] at h
        exact h
    · rw [if_neg z] at h
      exact br_t (nI_le (by omega) (by omega)) (sn_y542 GI D h)
theorem sn_ypar (hb : sn_src f_fromStruct a_body a_sBody b) (hn : n ≤ 64) (en : (f_fromStruct = 0 → f_bodyLen = nI n) ∧ (¬ f_fromStruct = 0 → f_sBodyLen = nI n)) (h : sn_YZ post f_cap f_hcap f_len f_caret f_sel f_bodyLen f_sBodyLen f_merge f_session f_selected f_active f_fromStruct f_baseLen f_baseP f_rlen f_tlen f_clearAll f_svF f_svL f_hCount a_buf a_body a_sBody a_typed a_tLen a_tText a_ipos a_base a_rbuf a_tbuf a_svT a_hist (sn_pp b n)) : wpY_parse post (f_cap, f_hcap, f_len, f_caret, f_sel, f_bodyLen, f_sBodyLen, f_merge, f_session, f_selected, f_active, f_nItems, f_finalIdx, f_fromStruct, f_baseLen, f_baseP, f_rlen, f_tlen, f_clearAll, f_svF, f_svL, f_hCount, a_buf, a_body, a_sBody, a_typed, a_tLen, a_tText, a_kind, a_val, a_stopOf, a_par, a_ipos, a_prim, a_stack, a_occ, a_base, a_rbuf, a_tbuf, a_svT, a_hist) := by
  have main : ∀ z : Int32, z = nI n → wY_parse_18 post z f_cap f_hcap f_len f_caret f_sel f_bodyLen f_sBodyLen f_merge f_session f_selected f_active f_nItems f_finalIdx f_fromStruct f_baseLen f_baseP f_rlen f_tlen f_clearAll f_svF f_svL f_hCount a_buf a_body a_sBody a_typed a_tLen a_tText a_kind a_val a_stopOf a_par a_ipos a_prim a_stack a_occ a_base a_rbuf a_tbuf a_svT a_hist := by
    intro z ez
    subst ez
    have go : ∀ j i k (pm oc : Nat → Int32), i + j = 10 → j < k → (∀ s, s < i → pm s = -1) → (∀ s, s < i → oc s = 0) → wY_parse_33 post (nI n) 0 f_cap f_hcap f_len f_caret f_sel f_bodyLen f_sBodyLen f_merge f_session f_selected f_active 0 ((-1)) f_fromStruct f_baseLen f_baseP f_rlen f_tlen f_clearAll f_svF f_svL f_hCount k (nI i) a_buf a_body a_sBody a_typed a_tLen a_tText a_kind a_val a_stopOf a_par a_ipos pm a_stack oc a_base a_rbuf a_tbuf a_svT a_hist := by
      intro j
      induction j with
      | zero =>
        intro i k pm oc hi hk h1 h2
        obtain ⟨k, rfl⟩ : ∃ q, k = q + 1 := ⟨k - 1, by omega⟩
        obtain rfl : i = 10 := by omega
        refine br_t (by decide) ⟨65, ?_⟩
        refine sn_y64 hb 64 65 0 sn_g0 (by omega) (by omega) (sn_GI0 hn) _ _ _ _ _ _ _ _ _ ⟨⟨rfl, fun x hx => absurd hx (Nat.not_lt_zero _), fun s _ hs => ?_, rfl⟩, fun k hk => absurd hk (Nat.not_lt_zero _), fun s hs => ?_⟩ h
        · rw [h1 s (by omega)]; rfl
        · rw [h2 s (by omega)]; rfl
      | succ j ih =>
        intro i k pm oc hi hk h1 h2
        obtain ⟨k, rfl⟩ : ∃ q, k = q + 1 := ⟨k - 1, by omega⟩
        refine br_f (nI_ge (a := i) (b := 10) (by omega) (by omega)) ⟨vp_in_nI (by omega) (by omega), fun y ey => ⟨vp_in_nI (by omega) (by omega), fun z ez u eu => ?_⟩⟩
        rw [nI_clamp (by omega)] at ey ez
        rw [sn_nar0] at ey
        rw [nI_1] at eu
        subst ey ez eu
        refine ih (i + 1) k _ _ (by omega) (by omega) (fun s hs => ?_) (fun s hs => ?_)
        · by_cases e : s = i
          · rw [e, pk_us]
          · rw [pk_un e]; exact h1 s (by omega)
        · by_cases e : s = i
          · rw [e, pk_us]
          · rw [pk_un e]; exact h2 s (by omega)
    exact ⟨11, go 10 0 11 _ _ (by omega) (by omega) (fun s hs => absurd hs (by omega)) (fun s hs => absurd hs (by omega))⟩
  by_cases z : f_fromStruct = 0
  · exact br_t z (main _ (en.1 z))
  · exact br_f z (main _ (en.2 z))
end SNW
