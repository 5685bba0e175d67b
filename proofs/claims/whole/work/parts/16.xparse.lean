section SNP
/-! X: the parse -/
def sn_XD (g : sn_G) (dK dV dO dC en : Nat → Int32) : Prop :=
  sn_XS g.2.1 g.2.2.2.2.1 g.2.2.2.2.2.1 g.2.2.2.2.2.2.2.1 g.2.2.2.2.2.2.2.2.1 dK dV dO dC ∧ ∀ k, k < g.2.2.1 → en k = nI (g.2.2.2.1 k)
def sn_XK (post : Int32 → SX → Prop) (f_capacity f_historyCap f_length f_caret f_selStart f_bodyLength f_undoDepth f_merge f_itemCount f_baseLength f_basePos f_activeStop f_selected : Int32) (a_text a_body a_history a_itemKind a_itemValue a_openAt a_closeAt a_base a_typedLength a_typedText a_trialLength : Nat → Int32) (r : Option sn_G) : Prop :=
  (r = none → ∀ (dc de ra : Int32) (dK dV dO dC en : Nat → Int32), post 0 (f_capacity, f_historyCap, f_length, f_caret, f_selStart, f_bodyLength, f_undoDepth, f_merge, f_itemCount, f_baseLength, f_basePos, f_activeStop, f_selected, dc, de, ra, a_text, a_body, a_history, a_itemKind, a_itemValue, a_openAt, a_closeAt, a_base, a_typedLength, a_typedText, dK, dV, dO, dC, en, a_trialLength)) ∧
  (∀ g : sn_G, r = some g → ∀ dK dV dO dC en : Nat → Int32, sn_XD g dK dV dO dC en → post 1 (f_capacity, f_historyCap, f_length, f_caret, f_selStart, f_bodyLength, f_undoDepth, f_merge, f_itemCount, f_baseLength, f_basePos, f_activeStop, f_selected, nI g.2.1, nI g.2.2.1, nI g.1, a_text, a_body, a_history, a_itemKind, a_itemValue, a_openAt, a_closeAt, a_base, a_typedLength, a_typedText, dK, dV, dO, dC, en, a_trialLength))
variable {f_capacity f_historyCap f_length f_caret f_selStart f_bodyLength f_undoDepth f_merge f_itemCount f_baseLength f_basePos f_activeStop f_selected f_draftCount f_depth f_readAt : Int32} {a_text a_body a_history a_itemKind a_itemValue a_openAt a_closeAt a_base a_typedLength a_typedText a_draftKind a_draftValue a_draftOpenAt a_draftCloseAt a_enclosing a_trialLength : Nat → Int32}
variable {post : Int32 → SX → Prop} {n : Nat} {g : sn_G}
theorem sn_XKn {r : Option sn_G} (h : sn_XK post f_capacity f_historyCap f_length f_caret f_selStart f_bodyLength f_undoDepth f_merge f_itemCount f_baseLength f_basePos f_activeStop f_selected a_text a_body a_history a_itemKind a_itemValue a_openAt a_closeAt a_base a_typedLength a_typedText a_trialLength r) : sn_XK (fun r u => match u with | (f_capacity, f_historyCap, f_length, f_caret, f_selStart, f_bodyLength, f_undoDepth, f_merge, f_itemCount, f_baseLength, f_basePos, f_activeStop, f_selected, f_draftCount, f_depth, f_readAt, a_text, a_body, a_history, a_itemKind, a_itemValue, a_openAt, a_closeAt, a_base, a_typedLength, a_typedText, a_draftKind, a_draftValue, a_draftOpenAt, a_draftCloseAt, a_enclosing, a_trialLength) => (narrow .boolean (.int r) = .int r ∧ (post r (f_capacity, f_historyCap, f_length, f_caret, f_selStart, f_bodyLength, f_undoDepth, f_merge, f_itemCount, f_baseLength, f_basePos, f_activeStop, f_selected, f_draftCount, f_depth, f_readAt, a_text, a_body, a_history, a_itemKind, a_itemValue, a_openAt, a_closeAt, a_base, a_typedLength, a_typedText, a_draftKind, a_draftValue, a_draftOpenAt, a_draftCloseAt, a_enclosing, a_trialLength)))) f_capacity f_historyCap f_length f_caret f_selStart f_bodyLength f_undoDepth f_merge f_itemCount f_baseLength f_basePos f_activeStop f_selected a_text a_body a_history a_itemKind a_itemValue a_openAt a_closeAt a_base a_typedLength a_typedText a_trialLength r :=
  ⟨fun e dc de ra dK dV dO dC en => ⟨rfl, h.1 e dc de ra dK dV dO dC en⟩, fun g e dK dV dO dC en D => ⟨rfl, h.2 g e dK dV dO dC en D⟩⟩
theorem sn_xadd {post : SX → Prop} {x0 x1 x2 : Int32} (c i w : Nat) (hc : c < 65) (e2 : x2 = nI w) (h : post (f_capacity, f_historyCap, f_length, f_caret, f_selStart, f_bodyLength, f_undoDepth, f_merge, f_itemCount, f_baseLength, f_basePos, f_activeStop, f_selected, nI (c + 1), f_depth, nI (i + w), a_text, a_body, a_history, a_itemKind, a_itemValue, a_openAt, a_closeAt, a_base, a_typedLength, a_typedText, upd a_draftKind c x0, upd a_draftValue c x1, a_draftOpenAt, a_draftCloseAt, a_enclosing, a_trialLength)) :
    wpX_addItem post (f_capacity, f_historyCap, f_length, f_caret, f_selStart, f_bodyLength, f_undoDepth, f_merge, f_itemCount, f_baseLength, f_basePos, f_activeStop, f_selected, nI c, f_depth, nI i, a_text, a_body, a_history, a_itemKind, a_itemValue, a_openAt, a_closeAt, a_base, a_typedLength, a_typedText, a_draftKind, a_draftValue, a_draftOpenAt, a_draftCloseAt, a_enclosing, a_trialLength) x0 x1 x2 := by
  subst e2
  refine br_f (nI_ge (b := 65) (by omega) (by omega)) ⟨vp_in_nI (by omega) (by omega), fun y ey => ⟨vp_in_nI (by omega) (by omega), fun z ez a ea b eb => ?_⟩⟩
  rw [nI_clamp (by omega)] at ey ez
  rw [nI_1] at ea
  rw [nI_add] at eb
  subst ey ez ea eb
  exact h
theorem sn_xMir {x0 x1 x2 : Int32} (s k w : Nat) (e0 : x0 = nI s) (e1 : x1 = nI k) (e2 : x2 = nI w) (hs : s ≤ 9) (GI : sn_GI n g) (D : sn_XD g a_draftKind a_draftValue a_draftOpenAt a_draftCloseAt a_enclosing)
    (h : sn_XK post f_capacity f_historyCap f_length f_caret f_selStart f_bodyLength f_undoDepth f_merge f_itemCount f_baseLength f_basePos f_activeStop f_selected a_text a_body a_history a_itemKind a_itemValue a_openAt a_closeAt a_base a_typedLength a_typedText a_trialLength (sn_gMir s k w g)) : wpX_addMirror post (f_capacity, f_historyCap, f_length, f_caret, f_selStart, f_bodyLength, f_undoDepth, f_merge, f_itemCount, f_baseLength, f_basePos, f_activeStop, f_selected, nI g.2.1, nI g.2.2.1, nI g.1, a_text, a_body, a_history, a_itemKind, a_itemValue, a_openAt, a_closeAt, a_base, a_typedLength, a_typedText, a_draftKind, a_draftValue, a_draftOpenAt, a_draftCloseAt, a_enclosing, a_trialLength) x0 x1 x2 := by
  subst e0 e1
  obtain ⟨i, c, d, st, K, V, S, oa, ca, sg, dp, pa⟩ := g
  obtain ⟨P, g1, g2, g3, g4⟩ := GI
  dsimp only at P g1 g2 g4
  have oc := sn_oac P.2.2.2.1 s
  have h0 := P.1
  by_cases z : 0 < d
  · exact br_t (nI_lt (a := 0) (b := d) z (by omega)) (h.1 (if_pos (Or.inl z)) _ _ _ _ _ _ _ _)
  · refine br_f (fun y => z ((nI_ltI (a := 0) (b := d) (by omega) (by omega)).mp y)) ?_
    by_cases s0 : s = 0
    · exact br_t (by rw [s0]; rfl) (h.1 (if_pos (Or.inr (Or.inl s0))) _ _ _ _ _ _ _ _)
    · refine br_f (sn_ne s0 (by omega) (by omega)) ⟨vp_in_nI (by omega) (by omega), ?_⟩
      rw [nI_clamp (show s < 2 ^ 31 by omega), D.1.2.1 s hs]
      by_cases oz : oa s = 1000
      · exact br_t (sn_o0 oz) (h.1 (if_pos (Or.inr (Or.inr oz))) _ _ _ _ _ _ _ _)
      · refine br_f (fun y => oz ((sn_oM (by omega)).mp y)) ?_
        refine sn_xadd c i w (by omega) e2 ?_
        refine h.2 _ (if_neg (fun y => ?_)) _ _ _ _ _ ⟨sn_xA D.1, D.2⟩
        rcases y with y | y | y
        · exact z y
        · exact s0 y
        · exact oz y
theorem sn_xFin {x0 : Int32} (w : Nat) (e0 : x0 = nI w) (GI : sn_GI n g) (D : sn_XD g a_draftKind a_draftValue a_draftOpenAt a_draftCloseAt a_enclosing)
    (h : sn_XK post f_capacity f_historyCap f_length f_caret f_selStart f_bodyLength f_undoDepth f_merge f_itemCount f_baseLength f_basePos f_activeStop f_selected a_text a_body a_history a_itemKind a_itemValue a_openAt a_closeAt a_base a_typedLength a_typedText a_trialLength (sn_gFin w g)) : wpX_addFinal post (f_capacity, f_historyCap, f_length, f_caret, f_selStart, f_bodyLength, f_undoDepth, f_merge, f_itemCount, f_baseLength, f_basePos, f_activeStop, f_selected, nI g.2.1, nI g.2.2.1, nI g.1, a_text, a_body, a_history, a_itemKind, a_itemValue, a_openAt, a_closeAt, a_base, a_typedLength, a_typedText, a_draftKind, a_draftValue, a_draftOpenAt, a_draftCloseAt, a_enclosing, a_trialLength) x0 := by
  obtain ⟨i, c, d, st, K, V, S, oa, ca, sg, dp, pa⟩ := g
  obtain ⟨P, g1, g2, g3, g4⟩ := GI
  dsimp only at P g1 g2 g4
  have oc := sn_oac P.2.2.2.1 0
  have h0 := P.1
  have d0 : a_draftOpenAt 0 = sn_o (oa 0) := D.1.2.1 0 (by omega)
  by_cases z : 0 < d
  · exact br_t (nI_lt (a := 0) (b := d) z (by omega)) (h.1 (if_pos (Or.inl z)) _ _ _ _ _ _ _ _)
  · refine br_f (fun y => z ((nI_ltI (a := 0) (b := d) (by omega) (by omega)).mp y)) ?_
    by_cases oz : oa 0 = 1000
    · refine br_t (by rw [d0, sn_o0 oz]) ?_
      intro y ey u eu
      subst ey eu
      refine sn_xadd c i w (by omega) e0 ?_
      refine h.2 _ (if_neg (fun y => ?_)) _ _ _ _ _ ⟨?_, D.2⟩
      · rcases y with y | y
        · exact z y
        · exact y oz
      · exact sn_xA (sn_xC (sn_xO D.1 (by omega)) (by omega))
    · exact br_f (fun y => oz ((sn_oM (by omega)).mp (by rw [← d0]; exact y))) (h.1 (if_pos (Or.inr oz)) _ _ _ _ _ _ _ _)
theorem sn_xRef {x0 x1 : Int32} (s w : Nat) (e0 : x0 = nI s) (e1 : x1 = nI w) (hs : s ≤ 9) (GI : sn_GI n g) (D : sn_XD g a_draftKind a_draftValue a_draftOpenAt a_draftCloseAt a_enclosing) (h2 : 2 ≤ w) (hn : sn_gI g + w ≤ n)
    (h : sn_XK post f_capacity f_historyCap f_length f_caret f_selStart f_bodyLength f_undoDepth f_merge f_itemCount f_baseLength f_basePos f_activeStop f_selected a_text a_body a_history a_itemKind a_itemValue a_openAt a_closeAt a_base a_typedLength a_typedText a_trialLength (sn_gRef s w g)) : wpX_addReference post (f_capacity, f_historyCap, f_length, f_caret, f_selStart, f_bodyLength, f_undoDepth, f_merge, f_itemCount, f_baseLength, f_basePos, f_activeStop, f_selected, nI g.2.1, nI g.2.2.1, nI g.1, a_text, a_body, a_history, a_itemKind, a_itemValue, a_openAt, a_closeAt, a_base, a_typedLength, a_typedText, a_draftKind, a_draftValue, a_draftOpenAt, a_draftCloseAt, a_enclosing, a_trialLength) x0 x1 := by
  subst e0
  unfold sn_gRef at h
  by_cases s0 : s = 0
  · rw [if_pos s0] at h
    exact br_t (by rw [s0]; rfl) (sn_xFin w e1 GI D (sn_XKn h))
  · rw [if_neg s0] at h
    refine br_f (sn_ne s0 (by omega) (by omega)) ⟨vp_in_nI (by omega) (by omega), ?_⟩
    rw [nI_clamp (show s < 2 ^ 31 by omega)]
    have o1 : a_draftOpenAt s = sn_o (sn_go g s) := D.1.2.1 s hs
    have oc : sn_go g s = 1000 ∨ sn_go g s < g.2.1 := sn_oac GI.1.2.2.2.1 s
    have h0 : g.2.1 < 1000 := GI.1.1
    by_cases oz : sn_go g s = 1000
    · rw [if_pos oz] at h
      refine br_t (by rw [o1, sn_o0 oz]) ⟨vp_in_nI (by omega) (by omega), fun y ey => ?_⟩
      subst ey
      obtain ⟨i, c, d, st, K, V, S, oa, ca, sg, dp, pa⟩ := g
      obtain ⟨P, g1, g2, g3, g4⟩ := GI
      dsimp only at P g1 g2 g4 h0
      have hn' : i + w ≤ n := hn
      refine sn_xadd c i w (by omega) e1 ?_
      refine ⟨vp_in_nI (by omega) (by omega), fun y ey => ?_⟩
      subst ey
      refine sn_xadd (c + 1) (i + w) 0 (by omega) rfl ?_
      refine h.2 _ rfl _ _ _ _ _ ⟨?_, fun k hk => ?_⟩
      · have es : sn_u st d s d = s := sn_us
        have q := sn_xA (k := 2) (v := nI s) (sn_xC (s := s) (y := c + 1) (sn_xA (k := 1) (v := nI s) (sn_xO (s := s) (y := c) D.1 (by omega))) (by omega))
        show sn_XS (c + 1 + 1) (sn_u (sn_u K c 1) (c + 1) 2) (upd (upd V c (nI s)) (c + 1) (nI (sn_u st d s (d + 1 - 1)))) (sn_u oa s c) (sn_u ca (sn_u st d s (d + 1 - 1)) (c + 1)) _ _ _ _
        rw [Nat.add_sub_cancel, es]
        exact q
      · have hk' : k < d + 1 - 1 := hk
        show a_enclosing k = nI (sn_u st d s k)
        rw [sn_un (by omega)]
        exact D.2 k (by omega : k < d)
    · rw [if_neg oz] at h
      refine br_f (fun y => oz ((sn_oM (by omega)).mp (by rw [← o1]; exact y))) ?_
      exact sn_xMir s 4 w rfl rfl e1 hs GI D (sn_XKn h)
theorem sn_xOpn {x0 : Int32} (s : Nat) (e0 : x0 = nI s) (hs : s ≤ 9) (GI : sn_GI n g) (D : sn_XD g a_draftKind a_draftValue a_draftOpenAt a_draftCloseAt a_enclosing) (hn : sn_gI g + 4 ≤ n)
    (h : sn_XK post f_capacity f_historyCap f_length f_caret f_selStart f_bodyLength f_undoDepth f_merge f_itemCount f_baseLength f_basePos f_activeStop f_selected a_text a_body a_history a_itemKind a_itemValue a_openAt a_closeAt a_base a_typedLength a_typedText a_trialLength (sn_gOpn s g)) : wpX_openPlaceholder post (f_capacity, f_historyCap, f_length, f_caret, f_selStart, f_bodyLength, f_undoDepth, f_merge, f_itemCount, f_baseLength, f_basePos, f_activeStop, f_selected, nI g.2.1, nI g.2.2.1, nI g.1, a_text, a_body, a_history, a_itemKind, a_itemValue, a_openAt, a_closeAt, a_base, a_typedLength, a_typedText, a_draftKind, a_draftValue, a_draftOpenAt, a_draftCloseAt, a_enclosing, a_trialLength) x0 := by
  subst e0
  obtain ⟨i, c, d, st, K, V, S, oa, ca, sg, dp, pa⟩ := g
  obtain ⟨P, g1, g2, g3, g4⟩ := GI
  dsimp only at P g1 g2 g4
  have oc := sn_oac P.2.2.2.1 s
  have h0 := P.1
  have hn' : i + 4 ≤ n := hn
  by_cases s0 : s = 0
  · exact br_t (by rw [s0]; rfl) (h.1 (if_pos (Or.inl s0)) _ _ _ _ _ _ _ _)
  · refine br_f (sn_ne s0 (by omega) (by omega)) ⟨vp_in_nI (by omega) (by omega), ?_⟩
    rw [nI_clamp (show s < 2 ^ 31 by omega), D.1.2.1 s hs]
    by_cases oz : oa s = 1000
    · refine br_t (sn_o0 oz) ?_
      by_cases d4 : 4 ≤ d
      · exact br_f (nI_nlt (a := d) (b := 4) d4 (by omega)) (h.1 (if_pos (Or.inr (Or.inr d4))) _ _ _ _ _ _ _ _)
      · refine br_t (nI_lt (a := d) (b := 4) (by omega) (by omega)) ⟨vp_in_nI (n := d) (by omega) (by omega), fun y ey z ez => ⟨vp_in_nI (by omega) (by omega), fun u eu => ?_⟩⟩
        rw [nI_clamp (show d < 2 ^ 31 by omega)] at ey
        rw [nI_1] at ez
        subst ey ez eu
        refine sn_xadd c i 4 (by omega) rfl ?_
        refine h.2 _ (if_neg (fun y => ?_)) _ _ _ _ _ ⟨sn_xA (sn_xO D.1 (by omega)), fun k hk => ?_⟩
        · rcases y with y | y | y
          · exact s0 y
          · exact y oz
          · exact d4 y
        · have hk' : k < d + 1 := hk
          show upd a_enclosing d (nI s) k = nI (sn_u st d s k)
          by_cases e : k = d
          · rw [e, pk_us, sn_us]
          · rw [pk_un e, sn_un e]; exact D.2 k (by omega : k < d)
    · exact br_f (fun y => oz ((sn_oM (by omega)).mp y)) (h.1 (if_pos (Or.inr (Or.inl oz))) _ _ _ _ _ _ _ _)
theorem sn_xCls (GI : sn_GI n g) (D : sn_XD g a_draftKind a_draftValue a_draftOpenAt a_draftCloseAt a_enclosing) (hn : sn_gI g < n)
    (h : sn_XK post f_capacity f_historyCap f_length f_caret f_selStart f_bodyLength f_undoDepth f_merge f_itemCount f_baseLength f_basePos f_activeStop f_selected a_text a_body a_history a_itemKind a_itemValue a_openAt a_closeAt a_base a_typedLength a_typedText a_trialLength (sn_gCls g)) : wpX_readClose post (f_capacity, f_historyCap, f_length, f_caret, f_selStart, f_bodyLength, f_undoDepth, f_merge, f_itemCount, f_baseLength, f_basePos, f_activeStop, f_selected, nI g.2.1, nI g.2.2.1, nI g.1, a_text, a_body, a_history, a_itemKind, a_itemValue, a_openAt, a_closeAt, a_base, a_typedLength, a_typedText, a_draftKind, a_draftValue, a_draftOpenAt, a_draftCloseAt, a_enclosing, a_trialLength) := by
  obtain ⟨i, c, d, st, K, V, S, oa, ca, sg, dp, pa⟩ := g
  obtain ⟨P, g1, g2, g3, g4⟩ := GI
  dsimp only at P g1 g2 g4
  have h0 := P.1
  have hn' : i < n := hn
  by_cases z : d = 0
  · exact br_t (by rw [z]; rfl) (h.1 (if_pos z) _ _ _ _ _ _ _ _)
  · refine br_f (sn_ne (a := d) z (by omega) (by omega)) (fun y ey => ?_)
    rw [sn_sb d 1 (by omega) rfl] at ey
    subst ey
    have q := P.2.2.2.2.2.1.1 (d - 1) (by omega)
    refine ⟨vp_in_nI (by omega) (by omega), fun u eu => ?_⟩
    rw [nI_clamp (by omega), D.2 (d - 1) (by omega : d - 1 < d)] at eu
    subst eu
    refine ⟨vp_in_nI (n := st (d - 1)) (by omega) (by omega), fun v ev => ?_⟩
    rw [nI_clamp (n := st (d - 1)) (by omega)] at ev
    subst ev
    refine sn_xadd c i 1 (by omega) rfl ?_
    refine h.2 _ (if_neg z) _ _ _ _ _ ⟨sn_xA (sn_xC D.1 (by omega)), fun k hk => ?_⟩
    have hk' : k < d - 1 := hk
    exact D.2 k (by omega : k < d)
end SNP
