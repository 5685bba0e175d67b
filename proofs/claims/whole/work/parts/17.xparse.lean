section SNQ
/-! X: the parse, reading -/
variable {f_capacity f_historyCap f_length f_caret f_selStart f_bodyLength f_undoDepth f_merge f_itemCount f_baseLength f_basePos f_activeStop f_selected f_draftCount f_depth f_readAt : Int32} {a_text a_body a_history a_itemKind a_itemValue a_openAt a_closeAt a_base a_typedLength a_typedText a_draftKind a_draftValue a_draftOpenAt a_draftCloseAt a_enclosing a_trialLength : Nat → Int32}
variable {post : Int32 → SX → Prop} {n : Nat} {g : sn_G}
theorem sn_xbc {post : Int32 → Prop} {x0 : Int32} (i : Nat) (e0 : x0 = nI i) (hi : i < 1000) (hn : n ≤ 64) (h : post (sn_chr a_body n i)) : wpX_bodyCharAt post (f_capacity, f_historyCap, f_length, f_caret, f_selStart, nI n, f_undoDepth, f_merge, f_itemCount, f_baseLength, f_basePos, f_activeStop, f_selected, f_draftCount, f_depth, f_readAt, a_text, a_body, a_history, a_itemKind, a_itemValue, a_openAt, a_closeAt, a_base, a_typedLength, a_typedText, a_draftKind, a_draftValue, a_draftOpenAt, a_draftCloseAt, a_enclosing, a_trialLength) x0 := by
  subst e0
  unfold sn_chr at h
  refine br_f (nI_pos (by omega)) ?_
  by_cases z : i < n
  · rw [if_pos z] at h
    refine br_t (nI_lt z (by omega)) ⟨vp_in_nI (by omega) (by omega), ?_⟩
    rw [nI_clamp (by omega)]; exact h
  · rw [if_neg z] at h
    exact br_f (nI_nlt (by omega) (by omega)) h
theorem sn_xdig {post : Int32 → Prop} {x : Int32} (h1 : 48 ≤ x ∧ x ≤ 57 → post 1) (h0 : ¬ (48 ≤ x ∧ x ≤ 57) → post 0) : wpX_isDigit post x := by
  by_cases a : x < 48
  · exact br_t a (h0 (fun z => absurd a (Int32.not_lt.mpr z.1)))
  · by_cases b : 57 < x
    · exact br_f a (br_t b (h0 (fun z => absurd b (Int32.not_lt.mpr z.2))))
    · exact br_f a (br_f b (h1 ⟨Int32.not_lt.mp a, Int32.not_lt.mp b⟩))
theorem sn_xtk {post : Int32 → Prop} {x : Int32} (h1 : sn_tk x ≠ 0 → post (nI (sn_tk x))) (h0 : sn_tk x = 0 → post (-1)) : wpX_transformKind post x := by
  unfold sn_tk at h1 h0
  by_cases a : x = 99
  · refine br_t a ?_
    rw [if_neg (by rw [a]; decide), if_neg (by rw [a]; decide), if_pos a] at h1
    exact h1 (by omega)
  · refine br_f a ?_
    by_cases b : x = 108
    · refine br_t b ?_
      rw [if_neg (by rw [b]; decide), if_pos b] at h1
      exact h1 (by omega)
    · refine br_f b ?_
      by_cases c : x = 117
      · refine br_t c ?_
        rw [if_pos c] at h1
        exact h1 (by omega)
      · refine br_f c ?_
        rw [if_neg c, if_neg b, if_neg a] at h0
        exact h0 rfl
theorem sn_xEsc (GI : sn_GI n g) (D : sn_XD g a_draftKind a_draftValue a_draftOpenAt a_draftCloseAt a_enclosing) (hn : sn_gI g < n) (h : sn_XK post f_capacity f_historyCap f_length f_caret f_selStart (nI n) f_undoDepth f_merge f_itemCount f_baseLength f_basePos f_activeStop f_selected a_text a_body a_history a_itemKind a_itemValue a_openAt a_closeAt a_base a_typedLength a_typedText a_trialLength (sn_gEsc a_body n g)) : wpX_readEscaped post (f_capacity, f_historyCap, f_length, f_caret, f_selStart, nI n, f_undoDepth, f_merge, f_itemCount, f_baseLength, f_basePos, f_activeStop, f_selected, nI g.2.1, nI g.2.2.1, nI g.1, a_text, a_body, a_history, a_itemKind, a_itemValue, a_openAt, a_closeAt, a_base, a_typedLength, a_typedText, a_draftKind, a_draftValue, a_draftOpenAt, a_draftCloseAt, a_enclosing, a_trialLength) := by
  have n64 := GI.2.2.2.1
  have c65 : g.2.1 < 65 := by
    have a := GI.2.1
    have b : g.1 < n := hn
    omega
  have hg : sn_gI g = g.1 := rfl
  unfold wpX_readEscaped
  refine sn_xbc (sn_gI g + 1) (nI_1 _) (by omega) n64 ?_
  unfold sn_gEsc at h
  have J : (sn_chr a_body n (sn_gI g + 1)) = 36 ∨ (sn_chr a_body n (sn_gI g + 1)) = 92 ∨ (sn_chr a_body n (sn_gI g + 1)) = 125 → wX_readEscaped_31 post (sn_chr a_body n (sn_gI g + 1)) f_capacity f_historyCap f_length f_caret f_selStart (nI n) f_undoDepth f_merge f_itemCount f_baseLength f_basePos f_activeStop f_selected (nI g.2.1) (nI g.2.2.1) (nI g.1) a_text a_body a_history a_itemKind a_itemValue a_openAt a_closeAt a_base a_typedLength a_typedText a_draftKind a_draftValue a_draftOpenAt a_draftCloseAt a_enclosing a_trialLength := by
    intro q
    refine sn_xadd g.2.1 g.1 2 c65 rfl ?_
    refine h.2 _ (if_pos q) _ _ _ _ _ ?_
    obtain ⟨i, c, d, st, K, V, S, oa, ca, sg, dp, pa⟩ := g
    exact ⟨sn_xA D.1, D.2⟩
  by_cases a : (sn_chr a_body n (sn_gI g + 1)) = 36
  · exact br_t a (J (Or.inl a))
  · refine br_f a ?_
    by_cases b : (sn_chr a_body n (sn_gI g + 1)) = 92
    · exact br_t b (J (Or.inr (Or.inl b)))
    · refine br_f b ?_
      by_cases c : (sn_chr a_body n (sn_gI g + 1)) = 125
      · exact br_t c (J (Or.inr (Or.inr c)))
      · refine br_f c (h.1 (if_neg (fun q => ?_)) _ _ _ _ _ _ _ _)
        rcases q with q | q | q
        · exact a q
        · exact b q
        · exact c q
theorem sn_xTr {x0 : Int32} (s : Nat) (e0 : x0 = nI s) (hs : s ≤ 9) (GI : sn_GI n g) (D : sn_XD g a_draftKind a_draftValue a_draftOpenAt a_draftCloseAt a_enclosing) (hn : sn_gI g < n) (h : sn_XK post f_capacity f_historyCap f_length f_caret f_selStart (nI n) f_undoDepth f_merge f_itemCount f_baseLength f_basePos f_activeStop f_selected a_text a_body a_history a_itemKind a_itemValue a_openAt a_closeAt a_base a_typedLength a_typedText a_trialLength (sn_gTr a_body n s g)) : wpX_readTransform post (f_capacity, f_historyCap, f_length, f_caret, f_selStart, nI n, f_undoDepth, f_merge, f_itemCount, f_baseLength, f_basePos, f_activeStop, f_selected, nI g.2.1, nI g.2.2.1, nI g.1, a_text, a_body, a_history, a_itemKind, a_itemValue, a_openAt, a_closeAt, a_base, a_typedLength, a_typedText, a_draftKind, a_draftValue, a_draftOpenAt, a_draftCloseAt, a_enclosing, a_trialLength) x0 := by
  have n64 := GI.2.2.2.1
  have hg : sn_gI g = g.1 := rfl
  unfold sn_gTr at h
  unfold wpX_readTransform
  refine sn_xbc (sn_gI g + 4) (sn_ad _ 4 rfl) (by omega) n64 ?_
  refine sn_xtk (fun z => ?_) (fun z => ?_)
  · have tb := sn_tkB (sn_chr a_body n (sn_gI g + 4))
    refine br_f (sn_nm1 (by omega)) ?_
    refine sn_xbc (sn_gI g + 5) (sn_ad _ 5 rfl) (by omega) n64 ?_
    by_cases y : (sn_chr a_body n (sn_gI g + 5)) = 125
    · rw [if_neg (fun q => by rcases q with q | q; exact z q; exact q y)] at h
      exact br_t y (sn_xMir s (sn_tk (sn_chr a_body n (sn_gI g + 4))) 6 e0 rfl rfl hs GI D (sn_XKn h))
    · exact br_f y (h.1 (if_pos (Or.inr y)) _ _ _ _ _ _ _ _)
  · exact br_t rfl (h.1 (if_pos (Or.inl z)) _ _ _ _ _ _ _ _)
theorem sn_xStp (GI : sn_GI n g) (D : sn_XD g a_draftKind a_draftValue a_draftOpenAt a_draftCloseAt a_enclosing) (hn : sn_gI g < n) (h : sn_XK post f_capacity f_historyCap f_length f_caret f_selStart (nI n) f_undoDepth f_merge f_itemCount f_baseLength f_basePos f_activeStop f_selected a_text a_body a_history a_itemKind a_itemValue a_openAt a_closeAt a_base a_typedLength a_typedText a_trialLength (sn_gStp a_body n g)) : wpX_readStop post (f_capacity, f_historyCap, f_length, f_caret, f_selStart, nI n, f_undoDepth, f_merge, f_itemCount, f_baseLength, f_basePos, f_activeStop, f_selected, nI g.2.1, nI g.2.2.1, nI g.1, a_text, a_body, a_history, a_itemKind, a_itemValue, a_openAt, a_closeAt, a_base, a_typedLength, a_typedText, a_draftKind, a_draftValue, a_draftOpenAt, a_draftCloseAt, a_enclosing, a_trialLength) := by
  have n64 := GI.2.2.2.1
  have hg : sn_gI g = g.1 := rfl
  unfold sn_gStp at h
  unfold wpX_readStop
  refine sn_xbc (sn_gI g + 1) (nI_1 _) (by omega) n64 ?_
  refine sn_xdig (fun z => ?_) (fun z => ?_)
  · have d9 := sn_dg9 z.1 z.2
    have q : sn_gI g + 1 < n := sn_chrN (b := a_body) (sn_dgN z.1)
    rw [if_pos z] at h
    exact br_f (by decide) (sn_xRef (sn_dg (sn_chr a_body n (sn_gI g + 1))) 2 d9.2.2 rfl d9.2.1 GI D (by omega) (by omega) (sn_XKn h))
  · rw [if_neg z] at h
    refine br_t rfl ?_
    refine sn_xbc (sn_gI g + 2) (sn_ad _ 2 rfl) (by omega) n64 ?_
    by_cases c1 : (sn_chr a_body n (sn_gI g + 1)) = 123
    · refine br_t c1 ?_
      refine sn_xdig (fun y => ?_) (fun y => ?_)
      · have d9 := sn_dg9 y.1 y.2
        rw [if_pos ⟨c1, y.1, y.2⟩] at h
        unfold sn_gBr at h
        refine br_f (by decide) (fun x ex => ?_)
        have ex' : x = nI (sn_dg (sn_chr a_body n (sn_gI g + 2))) := by rw [ex]; exact d9.2.2
        refine sn_xbc (sn_gI g + 3) (sn_ad _ 3 rfl) (by omega) n64 ?_
        by_cases k47 : (sn_chr a_body n (sn_gI g + 3)) = 47
        · rw [if_neg (by rw [k47]; decide), if_neg (by rw [k47]; decide), if_pos k47] at h
          exact br_t k47 (sn_xTr _ ex' d9.2.1 GI D hn (sn_XKn h))
        · refine br_f k47 ?_
          by_cases k58 : (sn_chr a_body n (sn_gI g + 3)) = 58
          · have q : sn_gI g + 3 < n := sn_chrN (b := a_body) (fun w => by rw [w] at k58; exact absurd k58 (by decide))
            rw [if_neg (by rw [k58]; decide), if_pos k58] at h
            exact br_t k58 (sn_xOpn _ ex' d9.2.1 GI D (by omega) (sn_XKn h))
          · refine br_f k58 ?_
            by_cases k125 : (sn_chr a_body n (sn_gI g + 3)) = 125
            · have q : sn_gI g + 3 < n := sn_chrN (b := a_body) (fun w => by rw [w] at k125; exact absurd k125 (by decide))
              rw [if_pos k125] at h
              exact br_t k125 (sn_xRef _ 4 ex' rfl d9.2.1 GI D (by omega) (by omega) (sn_XKn h))
            · rw [if_neg k125, if_neg k58, if_neg k47] at h
              exact br_f k125 (h.1 rfl _ _ _ _ _ _ _ _)
      · rw [if_neg (fun w => y w.2)] at h
        exact br_t rfl (h.1 rfl _ _ _ _ _ _ _ _)
    · rw [if_neg (fun w => c1 w.1)] at h
      exact br_f c1 (h.1 rfl _ _ _ _ _ _ _ _)
theorem sn_x94 (GI : sn_GI n g) (D : sn_XD g a_draftKind a_draftValue a_draftOpenAt a_draftCloseAt a_enclosing) (h : sn_XK post f_capacity f_historyCap f_length f_caret f_selStart (nI n) f_undoDepth f_merge f_itemCount f_baseLength f_basePos f_activeStop f_selected a_text a_body a_history a_itemKind a_itemValue a_openAt a_closeAt a_base a_typedLength a_typedText a_trialLength (sn_end g)) : wX_parseBody_94 post 1 f_capacity f_historyCap f_length f_caret f_selStart (nI n) f_undoDepth f_merge f_itemCount f_baseLength f_basePos f_activeStop f_selected (nI g.2.1) (nI g.2.2.1) (nI g.1) a_text a_body a_history a_itemKind a_itemValue a_openAt a_closeAt a_base a_typedLength a_typedText a_draftKind a_draftValue a_draftOpenAt a_draftCloseAt a_enclosing a_trialLength := by
  unfold sn_end at h
  have h0 := GI.1.1
  have g4 := GI.2.2.2.2
  have oc := sn_oac GI.1.2.2.2.1 0
  have d0 : a_draftOpenAt 0 = sn_o (sn_go g 0) := D.1.2.1 0 (by omega)
  have ob : sn_go g 0 ≤ 1000 := by
    have : sn_go g 0 = 1000 ∨ sn_go g 0 < g.2.1 := oc
    omega
  refine br_f (by decide) ?_
  by_cases z : 0 < sn_gd g
  · exact br_f (nI_nle z (by have : sn_gd g ≤ 4 := g4; omega)) (h.1 (if_pos z) _ _ _ _ _ _ _ _)
  · rw [if_neg z] at h
    have e0 : g.2.2.1 = 0 := by
      have : ¬ 0 < g.2.2.1 := z
      omega
    refine br_t (by rw [e0]; decide) ?_
    by_cases y : sn_go g 0 = 1000
    · rw [if_pos y] at h
      refine br_t (by rw [d0, sn_o0 y]) ?_
      refine sn_xFin 0 rfl GI D ?_
      unfold sn_gFin
      rw [if_neg (fun w => by rcases w with w | w; exact z w; exact w y)]
      exact ⟨fun e => absurd e (by simp), fun g' e dK dV dO dC en D' => h.2 g' e dK dV dO dC en D'⟩
    · rw [if_neg y] at h
      exact br_f (fun w => y ((sn_oM ob).mp (by rw [← d0]; exact w))) (h.2 g rfl _ _ _ _ _ D)
theorem sn_x94f (h : post 0 (f_capacity, f_historyCap, f_length, f_caret, f_selStart, f_bodyLength, f_undoDepth, f_merge, f_itemCount, f_baseLength, f_basePos, f_activeStop, f_selected, f_draftCount, f_depth, f_readAt, a_text, a_body, a_history, a_itemKind, a_itemValue, a_openAt, a_closeAt, a_base, a_typedLength, a_typedText, a_draftKind, a_draftValue, a_draftOpenAt, a_draftCloseAt, a_enclosing, a_trialLength)) : wX_parseBody_94 post 0 f_capacity f_historyCap f_length f_caret f_selStart f_bodyLength f_undoDepth f_merge f_itemCount f_baseLength f_basePos f_activeStop f_selected f_draftCount f_depth f_readAt a_text a_body a_history a_itemKind a_itemValue a_openAt a_closeAt a_base a_typedLength a_typedText a_draftKind a_draftValue a_draftOpenAt a_draftCloseAt a_enclosing a_trialLength := br_t rfl h
theorem sn_x8f {x2 : Int32} {m : Nat} (h : post 0 (f_capacity, f_historyCap, f_length, f_caret, f_selStart, f_bodyLength, f_undoDepth, f_merge, f_itemCount, f_baseLength, f_basePos, f_activeStop, f_selected, f_draftCount, f_depth, f_readAt, a_text, a_body, a_history, a_itemKind, a_itemValue, a_openAt, a_closeAt, a_base, a_typedLength, a_typedText, a_draftKind, a_draftValue, a_draftOpenAt, a_draftCloseAt, a_enclosing, a_trialLength)) : wX_parseBody_8 post (m + 1) 0 x2 f_capacity f_historyCap f_length f_caret f_selStart f_bodyLength f_undoDepth f_merge f_itemCount f_baseLength f_basePos f_activeStop f_selected f_draftCount f_depth f_readAt a_text a_body a_history a_itemKind a_itemValue a_openAt a_closeAt a_base a_typedLength a_typedText a_draftKind a_draftValue a_draftOpenAt a_draftCloseAt a_enclosing a_trialLength := by
  by_cases z : 64 ≤ x2
  · exact br_t z (sn_x94f h)
  · exact br_f z (br_t rfl (sn_x94f h))
theorem sn_x8 : ∀ (k m s : Nat) (g : sn_G), s + k = 64 → k < m → sn_GI n g → ∀ (a_draftKind a_draftValue a_draftOpenAt a_draftCloseAt a_enclosing : Nat → Int32), sn_XD g a_draftKind a_draftValue a_draftOpenAt a_draftCloseAt a_enclosing →
    sn_XK post f_capacity f_historyCap f_length f_caret f_selStart (nI n) f_undoDepth f_merge f_itemCount f_baseLength f_basePos f_activeStop f_selected a_text a_body a_history a_itemKind a_itemValue a_openAt a_closeAt a_base a_typedLength a_typedText a_trialLength ((sn_run a_body n k g).bind sn_end) → wX_parseBody_8 post m 1 (nI s) f_capacity f_historyCap f_length f_caret f_selStart (nI n) f_undoDepth f_merge f_itemCount f_baseLength f_basePos f_activeStop f_selected (nI g.2.1) (nI g.2.2.1) (nI g.1) a_text a_body a_history a_itemKind a_itemValue a_openAt a_closeAt a_base a_typedLength a_typedText a_draftKind a_draftValue a_draftOpenAt a_draftCloseAt a_enclosing a_trialLength := by
  intro k
  induction k with
  | zero =>
    intro m s g hs hm GI a_draftKind a_draftValue a_draftOpenAt a_draftCloseAt a_enclosing D h
    obtain ⟨m, rfl⟩ : ∃ j, m = j + 1 := ⟨m - 1, by omega⟩
    obtain rfl : s = 64 := by omega
    exact br_t (by decide) (sn_x94 GI D h)
  | succ k ih =>
    intro m s g hs hm GI a_draftKind a_draftValue a_draftOpenAt a_draftCloseAt a_enclosing D h
    obtain ⟨m, rfl⟩ : ∃ j, m = j + 1 := ⟨m - 1, by omega⟩
    have n64 := GI.2.2.2.1
    have hg : sn_gI g = g.1 := rfl
    have gn : g.1 ≤ n := GI.2.2.1
    rw [sn_run] at h
    refine br_f (nI_ge (a := s) (b := 64) (by omega) (by omega)) (br_f (by decide) ?_)
    by_cases z : sn_gI g < n
    · rw [if_pos z] at h
      have cont : ∀ r : Option sn_G, sn_gStep a_body n g = r → sn_XK (fun r u => match u with | (f_capacity, f_historyCap, f_length, f_caret, f_selStart, f_bodyLength, f_undoDepth, f_merge, f_itemCount, f_baseLength, f_basePos, f_activeStop, f_selected, f_draftCount, f_depth, f_readAt, a_text, a_body, a_history, a_itemKind, a_itemValue, a_openAt, a_closeAt, a_base, a_typedLength, a_typedText, a_draftKind, a_draftValue, a_draftOpenAt, a_draftCloseAt, a_enclosing, a_trialLength) => ∀ y : Int32, y = nI s + 1 → wX_parseBody_8 post m r y f_capacity f_historyCap f_length f_caret f_selStart f_bodyLength f_undoDepth f_merge f_itemCount f_baseLength f_basePos f_activeStop f_selected f_draftCount f_depth f_readAt a_text a_body a_history a_itemKind a_itemValue a_openAt a_closeAt a_base a_typedLength a_typedText a_draftKind a_draftValue a_draftOpenAt a_draftCloseAt a_enclosing a_trialLength) f_capacity f_historyCap f_length f_caret f_selStart (nI n) f_undoDepth f_merge f_itemCount f_baseLength f_basePos f_activeStop f_selected a_text a_body a_history a_itemKind a_itemValue a_openAt a_closeAt a_base a_typedLength a_typedText a_trialLength r := by
        intro r er
        obtain ⟨m, rfl⟩ : ∃ j, m = j + 1 := ⟨m - 1, by omega⟩
        refine ⟨fun e dc de ra dK dV dO dC en y ey => ?_, fun g' e dK dV dO dC en D' y ey => ?_⟩
        · exact sn_x8f (h.1 (by rw [er, e]; rfl) dc de ra dK dV dO dC en)
        · rw [ey, nI_1]
          refine ih (m + 1) (s + 1) g' (by omega) (by omega) (sn_stepI GI z (by rw [er, e])) dK dV dO dC en D' ?_
          rw [er, e] at h
          exact h
      unfold sn_gStep at cont
      refine br_f (nI_ge (by omega) (by omega)) ⟨vp_in_nI (by omega) (by omega), fun x ex => ?_⟩
      rw [nI_clamp (by omega)] at ex
      have ex' : x = a_body (sn_gI g) := ex
      subst ex'
      by_cases b92 : a_body (sn_gI g) = 92
      · exact br_t b92 (sn_xEsc GI D z (cont _ (if_pos b92)))
      · rw [if_neg b92] at cont
        refine br_f b92 ?_
        by_cases b36 : a_body (sn_gI g) = 36
        · exact br_t b36 (sn_xStp GI D z (cont _ (if_pos b36)))
        · rw [if_neg b36] at cont
          refine br_f b36 ?_
          by_cases b125 : a_body (sn_gI g) = 125
          · exact br_t b125 (sn_xCls GI D z (cont _ (if_pos b125)))
          · rw [if_neg b125] at cont
            refine br_f b125 ?_
            have c65 : g.2.1 < 65 := by
              have a := GI.2.1
              omega
            refine sn_xadd g.2.1 g.1 1 c65 rfl ?_
            refine (cont _ rfl).2 _ rfl _ _ _ _ _ ?_
            obtain ⟨i, c, d, st, K, V, S, oa, ca, sg, dp, pa⟩ := g
            exact ⟨sn_xA D.1, D.2⟩
    · rw [if_neg z] at h
      exact br_t (nI_le (by omega) (by omega)) (sn_x94 GI D h)
theorem sn_xsd {post : SX → Prop} (h : ∀ dO dC : Nat → Int32, (∀ s, s ≤ 9 → dO s = -1) → (∀ s, s ≤ 9 → dC s = -1) → post (f_capacity, f_historyCap, f_length, f_caret, f_selStart, f_bodyLength, f_undoDepth, f_merge, f_itemCount, f_baseLength, f_basePos, f_activeStop, f_selected, 0, 0, 0, a_text, a_body, a_history, a_itemKind, a_itemValue, a_openAt, a_closeAt, a_base, a_typedLength, a_typedText, a_draftKind, a_draftValue, dO, dC, a_enclosing, a_trialLength)) : wpX_startDraft post (f_capacity, f_historyCap, f_length, f_caret, f_selStart, f_bodyLength, f_undoDepth, f_merge, f_itemCount, f_baseLength, f_basePos, f_activeStop, f_selected, f_draftCount, f_depth, f_readAt, a_text, a_body, a_history, a_itemKind, a_itemValue, a_openAt, a_closeAt, a_base, a_typedLength, a_typedText, a_draftKind, a_draftValue, a_draftOpenAt, a_draftCloseAt, a_enclosing, a_trialLength) := by
  have go : ∀ m i k (dO dC : Nat → Int32), i + m = 10 → m < k → (∀ s, s < i → dO s = -1) → (∀ s, s < i → dC s = -1) → wX_startDraft_17 post f_capacity f_historyCap f_length f_caret f_selStart f_bodyLength f_undoDepth f_merge f_itemCount f_baseLength f_basePos f_activeStop f_selected 0 0 0 k (nI i) a_text a_body a_history a_itemKind a_itemValue a_openAt a_closeAt a_base a_typedLength a_typedText a_draftKind a_draftValue dO dC a_enclosing a_trialLength := by
    intro m
    induction m with
    | zero =>
      intro i k dO dC hi hk h1 h2
      obtain ⟨k, rfl⟩ : ∃ j, k = j + 1 := ⟨k - 1, by omega⟩
      obtain rfl : i = 10 := by omega
      exact br_t (by decide) (h dO dC (fun s hs => h1 s (by omega)) (fun s hs => h2 s (by omega)))
    | succ m ih =>
      intro i k dO dC hi hk h1 h2
      obtain ⟨k, rfl⟩ : ∃ j, k = j + 1 := ⟨k - 1, by omega⟩
      refine br_f (nI_ge (a := i) (b := 10) (by omega) (by omega)) ⟨vp_in_nI (by omega) (by omega), fun y ey => ⟨vp_in_nI (by omega) (by omega), fun z ez u eu => ?_⟩⟩
      rw [nI_clamp (by omega)] at ey ez
      rw [nI_1] at eu
      subst ey ez eu
      refine ih (i + 1) k _ _ (by omega) (by omega) (fun s hs => ?_) (fun s hs => ?_)
      · by_cases e : s = i
        · rw [e, pk_us]
        · rw [pk_un e]; exact h1 s (by omega)
      · by_cases e : s = i
        · rw [e, pk_us]
        · rw [pk_un e]; exact h2 s (by omega)
  exact ⟨11, go 10 0 11 _ _ (by omega) (by omega) (fun s hs => absurd hs (by omega)) (fun s hs => absurd hs (by omega))⟩
theorem sn_xpb (hn : n ≤ 64) (h : sn_XK post f_capacity f_historyCap f_length f_caret f_selStart (nI n) f_undoDepth f_merge f_itemCount f_baseLength f_basePos f_activeStop f_selected a_text a_body a_history a_itemKind a_itemValue a_openAt a_closeAt a_base a_typedLength a_typedText a_trialLength (sn_pp a_body n)) : wpX_parseBody post (f_capacity, f_historyCap, f_length, f_caret, f_selStart, nI n, f_undoDepth, f_merge, f_itemCount, f_baseLength, f_basePos, f_activeStop, f_selected, f_draftCount, f_depth, f_readAt, a_text, a_body, a_history, a_itemKind, a_itemValue, a_openAt, a_closeAt, a_base, a_typedLength, a_typedText, a_draftKind, a_draftValue, a_draftOpenAt, a_draftCloseAt, a_enclosing, a_trialLength) := by
  unfold wpX_parseBody
  refine sn_xsd (fun dO dC h1 h2 => ?_)
  refine ⟨65, sn_x8 64 65 0 sn_g0 (by omega) (by omega) (sn_GI0 hn) _ _ _ _ _ ⟨⟨fun x hx => absurd hx (Nat.not_lt_zero _), fun s hs => ?_, fun s hs => ?_⟩, fun k hk => absurd hk (Nat.not_lt_zero _)⟩ h⟩
  · rw [h1 s hs]; rfl
  · rw [h2 s hs]; rfl
end SNQ
