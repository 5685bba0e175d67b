section SNJ
variable {f_capacity f_historyCap f_length f_caret f_selStart f_bodyLength f_undoDepth f_merge f_itemCount f_baseLength f_basePos f_activeStop f_selected f_draftCount f_depth f_readAt : Int32} {a_text a_body a_history a_itemKind a_itemValue a_openAt a_closeAt a_base a_typedLength a_typedText a_draftKind a_draftValue a_draftOpenAt a_draftCloseAt a_enclosing a_trialLength : Nat → Int32}
variable {post : SX → Prop}
theorem sn_xl_history_history (p q m : Nat) (hp : p + m ≤ 2544) (hq : q + m ≤ 2544) (hlt : q ≤ p) (h : post (f_capacity, f_historyCap, f_length, f_caret, f_selStart, f_bodyLength, f_undoDepth, f_merge, f_itemCount, f_baseLength, f_basePos, f_activeStop, f_selected, f_draftCount, f_depth, f_readAt, a_text, a_body, sn_cp a_history p a_history q m, a_itemKind, a_itemValue, a_openAt, a_closeAt, a_base, a_typedLength, a_typedText, a_draftKind, a_draftValue, a_draftOpenAt, a_draftCloseAt, a_enclosing, a_trialLength)) : ∀ d i n, i + d = m → d < n → wX_copy__history_history_3 post (nI p) (nI q) (nI m) f_capacity f_historyCap f_length f_caret f_selStart f_bodyLength f_undoDepth f_merge f_itemCount f_baseLength f_basePos f_activeStop f_selected f_draftCount f_depth f_readAt n (nI i) a_text a_body (sn_cp a_history p a_history q i) a_itemKind a_itemValue a_openAt a_closeAt a_base a_typedLength a_typedText a_draftKind a_draftValue a_draftOpenAt a_draftCloseAt a_enclosing a_trialLength := by
  intro d
  induction d with
  | zero =>
    intro i n hi hn
    obtain ⟨n, rfl⟩ : ∃ k, n = k + 1 := ⟨n - 1, by omega⟩
    obtain rfl : i = m := by omega
    exact br_t (nI_le (Nat.le_refl _) (by omega)) h
  | succ d ih =>
    intro i n hi hn
    obtain ⟨n, rfl⟩ : ∃ k, n = k + 1 := ⟨n - 1, by omega⟩
    refine br_f (nI_ge (by omega) (by omega)) ⟨?_, ?_, ?_⟩
    · rw [nI_add]; exact vp_in_nI (by omega) (by omega)
    · rw [nI_add]; exact vp_in_nI (by omega) (by omega)
    · intro y ey z ez
      rw [nI_add, nI_add, nI_clamp (by omega), nI_clamp (by omega), sn_cpO (Or.inr (by omega)), sn_cpS] at ey
      rw [ez, nI_1, ey]
      exact ih (i + 1) n (by omega) (by omega)
theorem sn_xc_history_history {x1 x3 x4 : Int32} (p q m : Nat) (e1 : x1 = nI p) (e3 : x3 = nI q) (e4 : x4 = nI m) (hp : p + m ≤ 2544) (hq : q + m ≤ 2544) (hlt : q ≤ p) (h : post (f_capacity, f_historyCap, f_length, f_caret, f_selStart, f_bodyLength, f_undoDepth, f_merge, f_itemCount, f_baseLength, f_basePos, f_activeStop, f_selected, f_draftCount, f_depth, f_readAt, a_text, a_body, sn_cp a_history p a_history q m, a_itemKind, a_itemValue, a_openAt, a_closeAt, a_base, a_typedLength, a_typedText, a_draftKind, a_draftValue, a_draftOpenAt, a_draftCloseAt, a_enclosing, a_trialLength)) : wpX_copy__history_history post (f_capacity, f_historyCap, f_length, f_caret, f_selStart, f_bodyLength, f_undoDepth, f_merge, f_itemCount, f_baseLength, f_basePos, f_activeStop, f_selected, f_draftCount, f_depth, f_readAt, a_text, a_body, a_history, a_itemKind, a_itemValue, a_openAt, a_closeAt, a_base, a_typedLength, a_typedText, a_draftKind, a_draftValue, a_draftOpenAt, a_draftCloseAt, a_enclosing, a_trialLength) x1 x3 x4 := by
  subst e1 e3 e4
  have w := sn_xl_history_history p q m hp hq hlt h m 0 (m + 1) (by omega) (by omega)
  rw [sn_cp0] at w
  exact ⟨m + 1, w⟩
theorem sn_xl_text_history (p q m : Nat) (hp : p + m ≤ 64) (hq : q + m ≤ 2544) (h : post (f_capacity, f_historyCap, f_length, f_caret, f_selStart, f_bodyLength, f_undoDepth, f_merge, f_itemCount, f_baseLength, f_basePos, f_activeStop, f_selected, f_draftCount, f_depth, f_readAt, a_text, a_body, sn_cp a_text p a_history q m, a_itemKind, a_itemValue, a_openAt, a_closeAt, a_base, a_typedLength, a_typedText, a_draftKind, a_draftValue, a_draftOpenAt, a_draftCloseAt, a_enclosing, a_trialLength)) : ∀ d i n, i + d = m → d < n → wX_copy__text_history_3 post (nI p) (nI q) (nI m) f_capacity f_historyCap f_length f_caret f_selStart f_bodyLength f_undoDepth f_merge f_itemCount f_baseLength f_basePos f_activeStop f_selected f_draftCount f_depth f_readAt n (nI i) a_text a_body (sn_cp a_text p a_history q i) a_itemKind a_itemValue a_openAt a_closeAt a_base a_typedLength a_typedText a_draftKind a_draftValue a_draftOpenAt a_draftCloseAt a_enclosing a_trialLength := by
  intro d
  induction d with
  | zero =>
    intro i n hi hn
    obtain ⟨n, rfl⟩ : ∃ k, n = k + 1 := ⟨n - 1, by omega⟩
    obtain rfl : i = m := by omega
    exact br_t (nI_le (Nat.le_refl _) (by omega)) h
  | succ d ih =>
    intro i n hi hn
    obtain ⟨n, rfl⟩ : ∃ k, n = k + 1 := ⟨n - 1, by omega⟩
    refine br_f (nI_ge (by omega) (by omega)) ⟨?_, ?_, ?_⟩
    · rw [nI_add]; exact vp_in_nI (by omega) (by omega)
    · rw [nI_add]; exact vp_in_nI (by omega) (by omega)
    · intro y ey z ez
      rw [nI_add, nI_add, nI_clamp (by omega), nI_clamp (by omega), sn_cpS] at ey
      rw [ez, nI_1, ey]
      exact ih (i + 1) n (by omega) (by omega)
theorem sn_xc_text_history {x1 x3 x4 : Int32} (p q m : Nat) (e1 : x1 = nI p) (e3 : x3 = nI q) (e4 : x4 = nI m) (hp : p + m ≤ 64) (hq : q + m ≤ 2544) (h : post (f_capacity, f_historyCap, f_length, f_caret, f_selStart, f_bodyLength, f_undoDepth, f_merge, f_itemCount, f_baseLength, f_basePos, f_activeStop, f_selected, f_draftCount, f_depth, f_readAt, a_text, a_body, sn_cp a_text p a_history q m, a_itemKind, a_itemValue, a_openAt, a_closeAt, a_base, a_typedLength, a_typedText, a_draftKind, a_draftValue, a_draftOpenAt, a_draftCloseAt, a_enclosing, a_trialLength)) : wpX_copy__text_history post (f_capacity, f_historyCap, f_length, f_caret, f_selStart, f_bodyLength, f_undoDepth, f_merge, f_itemCount, f_baseLength, f_basePos, f_activeStop, f_selected, f_draftCount, f_depth, f_readAt, a_text, a_body, a_history, a_itemKind, a_itemValue, a_openAt, a_closeAt, a_base, a_typedLength, a_typedText, a_draftKind, a_draftValue, a_draftOpenAt, a_draftCloseAt, a_enclosing, a_trialLength) x1 x3 x4 := by
  subst e1 e3 e4
  have w := sn_xl_text_history p q m hp hq h m 0 (m + 1) (by omega) (by omega)
  rw [sn_cp0] at w
  exact ⟨m + 1, w⟩
theorem sn_xl_typedLength_history (p q m : Nat) (hp : p + m ≤ 10) (hq : q + m ≤ 2544) (h : post (f_capacity, f_historyCap, f_length, f_caret, f_selStart, f_bodyLength, f_undoDepth, f_merge, f_itemCount, f_baseLength, f_basePos, f_activeStop, f_selected, f_draftCount, f_depth, f_readAt, a_text, a_body, sn_cp a_typedLength p a_history q m, a_itemKind, a_itemValue, a_openAt, a_closeAt, a_base, a_typedLength, a_typedText, a_draftKind, a_draftValue, a_draftOpenAt, a_draftCloseAt, a_enclosing, a_trialLength)) : ∀ d i n, i + d = m → d < n → wX_copy__typedLength_history_3 post (nI p) (nI q) (nI m) f_capacity f_historyCap f_length f_caret f_selStart f_bodyLength f_undoDepth f_merge f_itemCount f_baseLength f_basePos f_activeStop f_selected f_draftCount f_depth f_readAt n (nI i) a_text a_body (sn_cp a_typedLength p a_history q i) a_itemKind a_itemValue a_openAt a_closeAt a_base a_typedLength a_typedText a_draftKind a_draftValue a_draftOpenAt a_draftCloseAt a_enclosing a_trialLength := by
  intro d
  induction d with
  | zero =>
    intro i n hi hn
    obtain ⟨n, rfl⟩ : ∃ k, n = k + 1 := ⟨n - 1, by omega⟩
    obtain rfl : i = m := by omega
    exact br_t (nI_le (Nat.le_refl _) (by omega)) h
  | succ d ih =>
    intro i n hi hn
    obtain ⟨n, rfl⟩ : ∃ k, n = k + 1 := ⟨n - 1, by omega⟩
    refine br_f (nI_ge (by omega) (by omega)) ⟨?_, ?_, ?_⟩
    · rw [nI_add]; exact vp_in_nI (by omega) (by omega)
    · rw [nI_add]; exact vp_in_nI (by omega) (by omega)
    · intro y ey z ez
      rw [nI_add, nI_add, nI_clamp (by omega), nI_clamp (by omega), sn_cpS] at ey
      rw [ez, nI_1, ey]
      exact ih (i + 1) n (by omega) (by omega)
theorem sn_xc_typedLength_history {x1 x3 x4 : Int32} (p q m : Nat) (e1 : x1 = nI p) (e3 : x3 = nI q) (e4 : x4 = nI m) (hp : p + m ≤ 10) (hq : q + m ≤ 2544) (h : post (f_capacity, f_historyCap, f_length, f_caret, f_selStart, f_bodyLength, f_undoDepth, f_merge, f_itemCount, f_baseLength, f_basePos, f_activeStop, f_selected, f_draftCount, f_depth, f_readAt, a_text, a_body, sn_cp a_typedLength p a_history q m, a_itemKind, a_itemValue, a_openAt, a_closeAt, a_base, a_typedLength, a_typedText, a_draftKind, a_draftValue, a_draftOpenAt, a_draftCloseAt, a_enclosing, a_trialLength)) : wpX_copy__typedLength_history post (f_capacity, f_historyCap, f_length, f_caret, f_selStart, f_bodyLength, f_undoDepth, f_merge, f_itemCount, f_baseLength, f_basePos, f_activeStop, f_selected, f_draftCount, f_depth, f_readAt, a_text, a_body, a_history, a_itemKind, a_itemValue, a_openAt, a_closeAt, a_base, a_typedLength, a_typedText, a_draftKind, a_draftValue, a_draftOpenAt, a_draftCloseAt, a_enclosing, a_trialLength) x1 x3 x4 := by
  subst e1 e3 e4
  have w := sn_xl_typedLength_history p q m hp hq h m 0 (m + 1) (by omega) (by omega)
  rw [sn_cp0] at w
  exact ⟨m + 1, w⟩
theorem sn_xl_typedText_history (p q m : Nat) (hp : p + m ≤ 80) (hq : q + m ≤ 2544) (h : post (f_capacity, f_historyCap, f_length, f_caret, f_selStart, f_bodyLength, f_undoDepth, f_merge, f_itemCount, f_baseLength, f_basePos, f_activeStop, f_selected, f_draftCount, f_depth, f_readAt, a_text, a_body, sn_cp a_typedText p a_history q m, a_itemKind, a_itemValue, a_openAt, a_closeAt, a_base, a_typedLength, a_typedText, a_draftKind, a_draftValue, a_draftOpenAt, a_draftCloseAt, a_enclosing, a_trialLength)) : ∀ d i n, i + d = m → d < n → wX_copy__typedText_history_3 post (nI p) (nI q) (nI m) f_capacity f_historyCap f_length f_caret f_selStart f_bodyLength f_undoDepth f_merge f_itemCount f_baseLength f_basePos f_activeStop f_selected f_draftCount f_depth f_readAt n (nI i) a_text a_body (sn_cp a_typedText p a_history q i) a_itemKind a_itemValue a_openAt a_closeAt a_base a_typedLength a_typedText a_draftKind a_draftValue a_draftOpenAt a_draftCloseAt a_enclosing a_trialLength := by
  intro d
  induction d with
  | zero =>
    intro i n hi hn
    obtain ⟨n, rfl⟩ : ∃ k, n = k + 1 := ⟨n - 1, by omega⟩
    obtain rfl : i = m := by omega
    exact br_t (nI_le (Nat.le_refl _) (by omega)) h
  | succ d ih =>
    intro i n hi hn
    obtain ⟨n, rfl⟩ : ∃ k, n = k + 1 := ⟨n - 1, by omega⟩
    refine br_f (nI_ge (by omega) (by omega)) ⟨?_, ?_, ?_⟩
    · rw [nI_add]; exact vp_in_nI (by omega) (by omega)
    · rw [nI_add]; exact vp_in_nI (by omega) (by omega)
    · intro y ey z ez
      rw [nI_add, nI_add, nI_clamp (by omega), nI_clamp (by omega), sn_cpS] at ey
      rw [ez, nI_1, ey]
      exact ih (i + 1) n (by omega) (by omega)
theorem sn_xc_typedText_history {x1 x3 x4 : Int32} (p q m : Nat) (e1 : x1 = nI p) (e3 : x3 = nI q) (e4 : x4 = nI m) (hp : p + m ≤ 80) (hq : q + m ≤ 2544) (h : post (f_capacity, f_historyCap, f_length, f_caret, f_selStart, f_bodyLength, f_undoDepth, f_merge, f_itemCount, f_baseLength, f_basePos, f_activeStop, f_selected, f_draftCount, f_depth, f_readAt, a_text, a_body, sn_cp a_typedText p a_history q m, a_itemKind, a_itemValue, a_openAt, a_closeAt, a_base, a_typedLength, a_typedText, a_draftKind, a_draftValue, a_draftOpenAt, a_draftCloseAt, a_enclosing, a_trialLength)) : wpX_copy__typedText_history post (f_capacity, f_historyCap, f_length, f_caret, f_selStart, f_bodyLength, f_undoDepth, f_merge, f_itemCount, f_baseLength, f_basePos, f_activeStop, f_selected, f_draftCount, f_depth, f_readAt, a_text, a_body, a_history, a_itemKind, a_itemValue, a_openAt, a_closeAt, a_base, a_typedLength, a_typedText, a_draftKind, a_draftValue, a_draftOpenAt, a_draftCloseAt, a_enclosing, a_trialLength) x1 x3 x4 := by
  subst e1 e3 e4
  have w := sn_xl_typedText_history p q m hp hq h m 0 (m + 1) (by omega) (by omega)
  rw [sn_cp0] at w
  exact ⟨m + 1, w⟩
theorem sn_xl_draftKind_itemKind (p q m : Nat) (hp : p + m ≤ 65) (hq : q + m ≤ 65) (h : post (f_capacity, f_historyCap, f_length, f_caret, f_selStart, f_bodyLength, f_undoDepth, f_merge, f_itemCount, f_baseLength, f_basePos, f_activeStop, f_selected, f_draftCount, f_depth, f_readAt, a_text, a_body, a_history, sn_cp a_draftKind p a_itemKind q m, a_itemValue, a_openAt, a_closeAt, a_base, a_typedLength, a_typedText, a_draftKind, a_draftValue, a_draftOpenAt, a_draftCloseAt, a_enclosing, a_trialLength)) : ∀ d i n, i + d = m → d < n → wX_copy__draftKind_itemKind_3 post (nI p) (nI q) (nI m) f_capacity f_historyCap f_length f_caret f_selStart f_bodyLength f_undoDepth f_merge f_itemCount f_baseLength f_basePos f_activeStop f_selected f_draftCount f_depth f_readAt n (nI i) a_text a_body a_history (sn_cp a_draftKind p a_itemKind q i) a_itemValue a_openAt a_closeAt a_base a_typedLength a_typedText a_draftKind a_draftValue a_draftOpenAt a_draftCloseAt a_enclosing a_trialLength := by
  intro d
  induction d with
  | zero =>
    intro i n hi hn
    obtain ⟨n, rfl⟩ : ∃ k, n = k + 1 := ⟨n - 1, by omega⟩
    obtain rfl : i = m := by omega
    exact br_t (nI_le (Nat.le_refl _) (by omega)) h
  | succ d ih =>
    intro i n hi hn
    obtain ⟨n, rfl⟩ : ∃ k, n = k + 1 := ⟨n - 1, by omega⟩
    refine br_f (nI_ge (by omega) (by omega)) ⟨?_, ?_, ?_⟩
    · rw [nI_add]; exact vp_in_nI (by omega) (by omega)
    · rw [nI_add]; exact vp_in_nI (by omega) (by omega)
    · intro y ey z ez
      rw [nI_add, nI_add, nI_clamp (by omega), nI_clamp (by omega), sn_cpS] at ey
      rw [ez, nI_1, ey]
      exact ih (i + 1) n (by omega) (by omega)
theorem sn_xc_draftKind_itemKind {x1 x3 x4 : Int32} (p q m : Nat) (e1 : x1 = nI p) (e3 : x3 = nI q) (e4 : x4 = nI m) (hp : p + m ≤ 65) (hq : q + m ≤ 65) (h : post (f_capacity, f_historyCap, f_length, f_caret, f_selStart, f_bodyLength, f_undoDepth, f_merge, f_itemCount, f_baseLength, f_basePos, f_activeStop, f_selected, f_draftCount, f_depth, f_readAt, a_text, a_body, a_history, sn_cp a_draftKind p a_itemKind q m, a_itemValue, a_openAt, a_closeAt, a_base, a_typedLength, a_typedText, a_draftKind, a_draftValue, a_draftOpenAt, a_draftCloseAt, a_enclosing, a_trialLength)) : wpX_copy__draftKind_itemKind post (f_capacity, f_historyCap, f_length, f_caret, f_selStart, f_bodyLength, f_undoDepth, f_merge, f_itemCount, f_baseLength, f_basePos, f_activeStop, f_selected, f_draftCount, f_depth, f_readAt, a_text, a_body, a_history, a_itemKind, a_itemValue, a_openAt, a_closeAt, a_base, a_typedLength, a_typedText, a_draftKind, a_draftValue, a_draftOpenAt, a_draftCloseAt, a_enclosing, a_trialLength) x1 x3 x4 := by
  subst e1 e3 e4
  have w := sn_xl_draftKind_itemKind p q m hp hq h m 0 (m + 1) (by omega) (by omega)
  rw [sn_cp0] at w
  exact ⟨m + 1, w⟩
theorem sn_xl_draftValue_itemValue (p q m : Nat) (hp : p + m ≤ 65) (hq : q + m ≤ 65) (h : post (f_capacity, f_historyCap, f_length, f_caret, f_selStart, f_bodyLength, f_undoDepth, f_merge, f_itemCount, f_baseLength, f_basePos, f_activeStop, f_selected, f_draftCount, f_depth, f_readAt, a_text, a_body, a_history, a_itemKind, sn_cp a_draftValue p a_itemValue q m, a_openAt, a_closeAt, a_base, a_typedLength, a_typedText, a_draftKind, a_draftValue, a_draftOpenAt, a_draftCloseAt, a_enclosing, a_trialLength)) : ∀ d i n, i + d = m → d < n → wX_copy__draftValue_itemValue_3 post (nI p) (nI q) (nI m) f_capacity f_historyCap f_length f_caret f_selStart f_bodyLength f_undoDepth f_merge f_itemCount f_baseLength f_basePos f_activeStop f_selected f_draftCount f_depth f_readAt n (nI i) a_text a_body a_history a_itemKind (sn_cp a_draftValue p a_itemValue q i) a_openAt a_closeAt a_base a_typedLength a_typedText a_draftKind a_draftValue a_draftOpenAt a_draftCloseAt a_enclosing a_trialLength := by
  intro d
  induction d with
  | zero =>
    intro i n hi hn
    obtain ⟨n, rfl⟩ : ∃ k, n = k + 1 := ⟨n - 1, by omega⟩
    obtain rfl : i = m := by omega
    exact br_t (nI_le (Nat.le_refl _) (by omega)) h
  | succ d ih =>
    intro i n hi hn
    obtain ⟨n, rfl⟩ : ∃ k, n = k + 1 := ⟨n - 1, by omega⟩
    refine br_f (nI_ge (by omega) (by omega)) ⟨?_, ?_, ?_⟩
    · rw [nI_add]; exact vp_in_nI (by omega) (by omega)
    · rw [nI_add]; exact vp_in_nI (by omega) (by omega)
    · intro y ey z ez
      rw [nI_add, nI_add, nI_clamp (by omega), nI_clamp (by omega), sn_cpS] at ey
      rw [ez, nI_1, ey]
      exact ih (i + 1) n (by omega) (by omega)
theorem sn_xc_draftValue_itemValue {x1 x3 x4 : Int32} (p q m : Nat) (e1 : x1 = nI p) (e3 : x3 = nI q) (e4 : x4 = nI m) (hp : p + m ≤ 65) (hq : q + m ≤ 65) (h : post (f_capacity, f_historyCap, f_length, f_caret, f_selStart, f_bodyLength, f_undoDepth, f_merge, f_itemCount, f_baseLength, f_basePos, f_activeStop, f_selected, f_draftCount, f_depth, f_readAt, a_text, a_body, a_history, a_itemKind, sn_cp a_draftValue p a_itemValue q m, a_openAt, a_closeAt, a_base, a_typedLength, a_typedText, a_draftKind, a_draftValue, a_draftOpenAt, a_draftCloseAt, a_enclosing, a_trialLength)) : wpX_copy__draftValue_itemValue post (f_capacity, f_historyCap, f_length, f_caret, f_selStart, f_bodyLength, f_undoDepth, f_merge, f_itemCount, f_baseLength, f_basePos, f_activeStop, f_selected, f_draftCount, f_depth, f_readAt, a_text, a_body, a_history, a_itemKind, a_itemValue, a_openAt, a_closeAt, a_base, a_typedLength, a_typedText, a_draftKind, a_draftValue, a_draftOpenAt, a_draftCloseAt, a_enclosing, a_trialLength) x1 x3 x4 := by
  subst e1 e3 e4
  have w := sn_xl_draftValue_itemValue p q m hp hq h m 0 (m + 1) (by omega) (by omega)
  rw [sn_cp0] at w
  exact ⟨m + 1, w⟩
theorem sn_xl_draftOpenAt_openAt (p q m : Nat) (hp : p + m ≤ 10) (hq : q + m ≤ 10) (h : post (f_capacity, f_historyCap, f_length, f_caret, f_selStart, f_bodyLength, f_undoDepth, f_merge, f_itemCount, f_baseLength, f_basePos, f_activeStop, f_selected, f_draftCount, f_depth, f_readAt, a_text, a_body, a_history, a_itemKind, a_itemValue, sn_cp a_draftOpenAt p a_openAt q m, a_closeAt, a_base, a_typedLength, a_typedText, a_draftKind, a_draftValue, a_draftOpenAt, a_draftCloseAt, a_enclosing, a_trialLength)) : ∀ d i n, i + d = m → d < n → wX_copy__draftOpenAt_openAt_3 post (nI p) (nI q) (nI m) f_capacity f_historyCap f_length f_caret f_selStart f_bodyLength f_undoDepth f_merge f_itemCount f_baseLength f_basePos f_activeStop f_selected f_draftCount f_depth f_readAt n (nI i) a_text a_body a_history a_itemKind a_itemValue (sn_cp a_draftOpenAt p a_openAt q i) a_closeAt a_base a_typedLength a_typedText a_draftKind a_draftValue a_draftOpenAt a_draftCloseAt a_enclosing a_trialLength := by
  intro d
  induction d with
  | zero =>
    intro i n hi hn
    obtain ⟨n, rfl⟩ : ∃ k, n = k + 1 := ⟨n - 1, by omega⟩
    obtain rfl : i = m := by omega
    exact br_t (nI_le (Nat.le_refl _) (by omega)) h
  | succ d ih =>
    intro i n hi hn
    obtain ⟨n, rfl⟩ : ∃ k, n = k + 1 := ⟨n - 1, by omega⟩
    refine br_f (nI_ge (by omega) (by omega)) ⟨?_, ?_, ?_⟩
    · rw [nI_add]; exact vp_in_nI (by omega) (by omega)
    · rw [nI_add]; exact vp_in_nI (by omega) (by omega)
    · intro y ey z ez
      rw [nI_add, nI_add, nI_clamp (by omega), nI_clamp (by omega), sn_cpS] at ey
      rw [ez, nI_1, ey]
      exact ih (i + 1) n (by omega) (by omega)
theorem sn_xc_draftOpenAt_openAt {x1 x3 x4 : Int32} (p q m : Nat) (e1 : x1 = nI p) (e3 : x3 = nI q) (e4 : x4 = nI m) (hp : p + m ≤ 10) (hq : q + m ≤ 10) (h : post (f_capacity, f_historyCap, f_length, f_caret, f_selStart, f_bodyLength, f_undoDepth, f_merge, f_itemCount, f_baseLength, f_basePos, f_activeStop, f_selected, f_draftCount, f_depth, f_readAt, a_text, a_body, a_history, a_itemKind, a_itemValue, sn_cp a_draftOpenAt p a_openAt q m, a_closeAt, a_base, a_typedLength, a_typedText, a_draftKind, a_draftValue, a_draftOpenAt, a_draftCloseAt, a_enclosing, a_trialLength)) : wpX_copy__draftOpenAt_openAt post (f_capacity, f_historyCap, f_length, f_caret, f_selStart, f_bodyLength, f_undoDepth, f_merge, f_itemCount, f_baseLength, f_basePos, f_activeStop, f_selected, f_draftCount, f_depth, f_readAt, a_text, a_body, a_history, a_itemKind, a_itemValue, a_openAt, a_closeAt, a_base, a_typedLength, a_typedText, a_draftKind, a_draftValue, a_draftOpenAt, a_draftCloseAt, a_enclosing, a_trialLength) x1 x3 x4 := by
  subst e1 e3 e4
  have w := sn_xl_draftOpenAt_openAt p q m hp hq h m 0 (m + 1) (by omega) (by omega)
  rw [sn_cp0] at w
  exact ⟨m + 1, w⟩
theorem sn_xl_draftCloseAt_closeAt (p q m : Nat) (hp : p + m ≤ 10) (hq : q + m ≤ 10) (h : post (f_capacity, f_historyCap, f_length, f_caret, f_selStart, f_bodyLength, f_undoDepth, f_merge, f_itemCount, f_baseLength, f_basePos, f_activeStop, f_selected, f_draftCount, f_depth, f_readAt, a_text, a_body, a_history, a_itemKind, a_itemValue, a_openAt, sn_cp a_draftCloseAt p a_closeAt q m, a_base, a_typedLength, a_typedText, a_draftKind, a_draftValue, a_draftOpenAt, a_draftCloseAt, a_enclosing, a_trialLength)) : ∀ d i n, i + d = m → d < n → wX_copy__draftCloseAt_closeAt_3 post (nI p) (nI q) (nI m) f_capacity f_historyCap f_length f_caret f_selStart f_bodyLength f_undoDepth f_merge f_itemCount f_baseLength f_basePos f_activeStop f_selected f_draftCount f_depth f_readAt n (nI i) a_text a_body a_history a_itemKind a_itemValue a_openAt (sn_cp a_draftCloseAt p a_closeAt q i) a_base a_typedLength a_typedText a_draftKind a_draftValue a_draftOpenAt a_draftCloseAt a_enclosing a_trialLength := by
  intro d
  induction d with
  | zero =>
    intro i n hi hn
    obtain ⟨n, rfl⟩ : ∃ k, n = k + 1 := ⟨n - 1, by omega⟩
    obtain rfl : i = m := by omega
    exact br_t (nI_le (Nat.le_refl _) (by omega)) h
  | succ d ih =>
    intro i n hi hn
    obtain ⟨n, rfl⟩ : ∃ k, n = k + 1 := ⟨n - 1, by omega⟩
    refine br_f (nI_ge (by omega) (by omega)) ⟨?_, ?_, ?_⟩
    · rw [nI_add]; exact vp_in_nI (by omega) (by omega)
    · rw [nI_add]; exact vp_in_nI (by omega) (by omega)
    · intro y ey z ez
      rw [nI_add, nI_add, nI_clamp (by omega), nI_clamp (by omega), sn_cpS] at ey
      rw [ez, nI_1, ey]
      exact ih (i + 1) n (by omega) (by omega)
theorem sn_xc_draftCloseAt_closeAt {x1 x3 x4 : Int32} (p q m : Nat) (e1 : x1 = nI p) (e3 : x3 = nI q) (e4 : x4 = nI m) (hp : p + m ≤ 10) (hq : q + m ≤ 10) (h : post (f_capacity, f_historyCap, f_length, f_caret, f_selStart, f_bodyLength, f_undoDepth, f_merge, f_itemCount, f_baseLength, f_basePos, f_activeStop, f_selected, f_draftCount, f_depth, f_readAt, a_text, a_body, a_history, a_itemKind, a_itemValue, a_openAt, sn_cp a_draftCloseAt p a_closeAt q m, a_base, a_typedLength, a_typedText, a_draftKind, a_draftValue, a_draftOpenAt, a_draftCloseAt, a_enclosing, a_trialLength)) : wpX_copy__draftCloseAt_closeAt post (f_capacity, f_historyCap, f_length, f_caret, f_selStart, f_bodyLength, f_undoDepth, f_merge, f_itemCount, f_baseLength, f_basePos, f_activeStop, f_selected, f_draftCount, f_depth, f_readAt, a_text, a_body, a_history, a_itemKind, a_itemValue, a_openAt, a_closeAt, a_base, a_typedLength, a_typedText, a_draftKind, a_draftValue, a_draftOpenAt, a_draftCloseAt, a_enclosing, a_trialLength) x1 x3 x4 := by
  subst e1 e3 e4
  have w := sn_xl_draftCloseAt_closeAt p q m hp hq h m 0 (m + 1) (by omega) (by omega)
  rw [sn_cp0] at w
  exact ⟨m + 1, w⟩
theorem sn_xl_text_base (p q m : Nat) (hp : p + m ≤ 64) (hq : q + m ≤ 64) (h : post (f_capacity, f_historyCap, f_length, f_caret, f_selStart, f_bodyLength, f_undoDepth, f_merge, f_itemCount, f_baseLength, f_basePos, f_activeStop, f_selected, f_draftCount, f_depth, f_readAt, a_text, a_body, a_history, a_itemKind, a_itemValue, a_openAt, a_closeAt, sn_cp a_text p a_base q m, a_typedLength, a_typedText, a_draftKind, a_draftValue, a_draftOpenAt, a_draftCloseAt, a_enclosing, a_trialLength)) : ∀ d i n, i + d = m → d < n → wX_copy__text_base_3 post (nI p) (nI q) (nI m) f_capacity f_historyCap f_length f_caret f_selStart f_bodyLength f_undoDepth f_merge f_itemCount f_baseLength f_basePos f_activeStop f_selected f_draftCount f_depth f_readAt n (nI i) a_text a_body a_history a_itemKind a_itemValue a_openAt a_closeAt (sn_cp a_text p a_base q i) a_typedLength a_typedText a_draftKind a_draftValue a_draftOpenAt a_draftCloseAt a_enclosing a_trialLength := by
  intro d
  induction d with
  | zero =>
    intro i n hi hn
    obtain ⟨n, rfl⟩ : ∃ k, n = k + 1 := ⟨n - 1, by omega⟩
    obtain rfl : i = m := by omega
    exact br_t (nI_le (Nat.le_refl _) (by omega)) h
  | succ d ih =>
    intro i n hi hn
    obtain ⟨n, rfl⟩ : ∃ k, n = k + 1 := ⟨n - 1, by omega⟩
    refine br_f (nI_ge (by omega) (by omega)) ⟨?_, ?_, ?_⟩
    · rw [nI_add]; exact vp_in_nI (by omega) (by omega)
    · rw [nI_add]; exact vp_in_nI (by omega) (by omega)
    · intro y ey z ez
      rw [nI_add, nI_add, nI_clamp (by omega), nI_clamp (by omega), sn_cpS] at ey
      rw [ez, nI_1, ey]
      exact ih (i + 1) n (by omega) (by omega)
theorem sn_xc_text_base {x1 x3 x4 : Int32} (p q m : Nat) (e1 : x1 = nI p) (e3 : x3 = nI q) (e4 : x4 = nI m) (hp : p + m ≤ 64) (hq : q + m ≤ 64) (h : post (f_capacity, f_historyCap, f_length, f_caret, f_selStart, f_bodyLength, f_undoDepth, f_merge, f_itemCount, f_baseLength, f_basePos, f_activeStop, f_selected, f_draftCount, f_depth, f_readAt, a_text, a_body, a_history, a_itemKind, a_itemValue, a_openAt, a_closeAt, sn_cp a_text p a_base q m, a_typedLength, a_typedText, a_draftKind, a_draftValue, a_draftOpenAt, a_draftCloseAt, a_enclosing, a_trialLength)) : wpX_copy__text_base post (f_capacity, f_historyCap, f_length, f_caret, f_selStart, f_bodyLength, f_undoDepth, f_merge, f_itemCount, f_baseLength, f_basePos, f_activeStop, f_selected, f_draftCount, f_depth, f_readAt, a_text, a_body, a_history, a_itemKind, a_itemValue, a_openAt, a_closeAt, a_base, a_typedLength, a_typedText, a_draftKind, a_draftValue, a_draftOpenAt, a_draftCloseAt, a_enclosing, a_trialLength) x1 x3 x4 := by
  subst e1 e3 e4
  have w := sn_xl_text_base p q m hp hq h m 0 (m + 1) (by omega) (by omega)
  rw [sn_cp0] at w
  exact ⟨m + 1, w⟩
theorem sn_xl_typedLength_trialLength (p q m : Nat) (hp : p + m ≤ 10) (hq : q + m ≤ 10) (h : post (f_capacity, f_historyCap, f_length, f_caret, f_selStart, f_bodyLength, f_undoDepth, f_merge, f_itemCount, f_baseLength, f_basePos, f_activeStop, f_selected, f_draftCount, f_depth, f_readAt, a_text, a_body, a_history, a_itemKind, a_itemValue, a_openAt, a_closeAt, a_base, a_typedLength, a_typedText, a_draftKind, a_draftValue, a_draftOpenAt, a_draftCloseAt, a_enclosing, sn_cp a_typedLength p a_trialLength q m)) : ∀ d i n, i + d = m → d < n → wX_copy__typedLength_trialLength_3 post (nI p) (nI q) (nI m) f_capacity f_historyCap f_length f_caret f_selStart f_bodyLength f_undoDepth f_merge f_itemCount f_baseLength f_basePos f_activeStop f_selected f_draftCount f_depth f_readAt n (nI i) a_text a_body a_history a_itemKind a_itemValue a_openAt a_closeAt a_base a_typedLength a_typedText a_draftKind a_draftValue a_draftOpenAt a_draftCloseAt a_enclosing (sn_cp a_typedLength p a_trialLength q i) := by
  intro d
  induction d with
  | zero =>
    intro i n hi hn
    obtain ⟨n, rfl⟩ : ∃ k, n = k + 1 := ⟨n - 1, by omega⟩
    obtain rfl : i = m := by omega
    exact br_t (nI_le (Nat.le_refl _) (by omega)) h
  | succ d ih =>
    intro i n hi hn
    obtain ⟨n, rfl⟩ : ∃ k, n = k + 1 := ⟨n - 1, by omega⟩
    refine br_f (nI_ge (by omega) (by omega)) ⟨?_, ?_, ?_⟩
    · rw [nI_add]; exact vp_in_nI (by omega) (by omega)
    · rw [nI_add]; exact vp_in_nI (by omega) (by omega)
    · intro y ey z ez
      rw [nI_add, nI_add, nI_clamp (by omega), nI_clamp (by omega), sn_cpS] at ey
      rw [ez, nI_1, ey]
      exact ih (i + 1) n (by omega) (by omega)
theorem sn_xc_typedLength_trialLength {x1 x3 x4 : Int32} (p q m : Nat) (e1 : x1 = nI p) (e3 : x3 = nI q) (e4 : x4 = nI m) (hp : p + m ≤ 10) (hq : q + m ≤ 10) (h : post (f_capacity, f_historyCap, f_length, f_caret, f_selStart, f_bodyLength, f_undoDepth, f_merge, f_itemCount, f_baseLength, f_basePos, f_activeStop, f_selected, f_draftCount, f_depth, f_readAt, a_text, a_body, a_history, a_itemKind, a_itemValue, a_openAt, a_closeAt, a_base, a_typedLength, a_typedText, a_draftKind, a_draftValue, a_draftOpenAt, a_draftCloseAt, a_enclosing, sn_cp a_typedLength p a_trialLength q m)) : wpX_copy__typedLength_trialLength post (f_capacity, f_historyCap, f_length, f_caret, f_selStart, f_bodyLength, f_undoDepth, f_merge, f_itemCount, f_baseLength, f_basePos, f_activeStop, f_selected, f_draftCount, f_depth, f_readAt, a_text, a_body, a_history, a_itemKind, a_itemValue, a_openAt, a_closeAt, a_base, a_typedLength, a_typedText, a_draftKind, a_draftValue, a_draftOpenAt, a_draftCloseAt, a_enclosing, a_trialLength) x1 x3 x4 := by
  subst e1 e3 e4
  have w := sn_xl_typedLength_trialLength p q m hp hq h m 0 (m + 1) (by omega) (by omega)
  rw [sn_cp0] at w
  exact ⟨m + 1, w⟩
theorem sn_xl_text_text (p q m : Nat) (hp : p + m ≤ 64) (hq : q + m ≤ 64) (hlt : q ≤ p) (h : post (f_capacity, f_historyCap, f_length, f_caret, f_selStart, f_bodyLength, f_undoDepth, f_merge, f_itemCount, f_baseLength, f_basePos, f_activeStop, f_selected, f_draftCount, f_depth, f_readAt, sn_cp a_text p a_text q m, a_body, a_history, a_itemKind, a_itemValue, a_openAt, a_closeAt, a_base, a_typedLength, a_typedText, a_draftKind, a_draftValue, a_draftOpenAt, a_draftCloseAt, a_enclosing, a_trialLength)) : ∀ d i n, i + d = m → d < n → wX_copy__text_text_3 post (nI p) (nI q) (nI m) f_capacity f_historyCap f_length f_caret f_selStart f_bodyLength f_undoDepth f_merge f_itemCount f_baseLength f_basePos f_activeStop f_selected f_draftCount f_depth f_readAt n (nI i) (sn_cp a_text p a_text q i) a_body a_history a_itemKind a_itemValue a_openAt a_closeAt a_base a_typedLength a_typedText a_draftKind a_draftValue a_draftOpenAt a_draftCloseAt a_enclosing a_trialLength := by
  intro d
  induction d with
  | zero =>
    intro i n hi hn
    obtain ⟨n, rfl⟩ : ∃ k, n = k + 1 := ⟨n - 1, by omega⟩
    obtain rfl : i = m := by omega
    exact br_t (nI_le (Nat.le_refl _) (by omega)) h
  | succ d ih =>
    intro i n hi hn
    obtain ⟨n, rfl⟩ : ∃ k, n = k + 1 := ⟨n - 1, by omega⟩
    refine br_f (nI_ge (by omega) (by omega)) ⟨?_, ?_, ?_⟩
    · rw [nI_add]; exact vp_in_nI (by omega) (by omega)
    · rw [nI_add]; exact vp_in_nI (by omega) (by omega)
    · intro y ey z ez
      rw [nI_add, nI_add, nI_clamp (by omega), nI_clamp (by omega), sn_cpO (Or.inr (by omega)), sn_cpS] at ey
      rw [ez, nI_1, ey]
      exact ih (i + 1) n (by omega) (by omega)
theorem sn_xc_text_text {x1 x3 x4 : Int32} (p q m : Nat) (e1 : x1 = nI p) (e3 : x3 = nI q) (e4 : x4 = nI m) (hp : p + m ≤ 64) (hq : q + m ≤ 64) (hlt : q ≤ p) (h : post (f_capacity, f_historyCap, f_length, f_caret, f_selStart, f_bodyLength, f_undoDepth, f_merge, f_itemCount, f_baseLength, f_basePos, f_activeStop, f_selected, f_draftCount, f_depth, f_readAt, sn_cp a_text p a_text q m, a_body, a_history, a_itemKind, a_itemValue, a_openAt, a_closeAt, a_base, a_typedLength, a_typedText, a_draftKind, a_draftValue, a_draftOpenAt, a_draftCloseAt, a_enclosing, a_trialLength)) : wpX_copy__text_text post (f_capacity, f_historyCap, f_length, f_caret, f_selStart, f_bodyLength, f_undoDepth, f_merge, f_itemCount, f_baseLength, f_basePos, f_activeStop, f_selected, f_draftCount, f_depth, f_readAt, a_text, a_body, a_history, a_itemKind, a_itemValue, a_openAt, a_closeAt, a_base, a_typedLength, a_typedText, a_draftKind, a_draftValue, a_draftOpenAt, a_draftCloseAt, a_enclosing, a_trialLength) x1 x3 x4 := by
  subst e1 e3 e4
  have w := sn_xl_text_text p q m hp hq hlt h m 0 (m + 1) (by omega) (by omega)
  rw [sn_cp0] at w
  exact ⟨m + 1, w⟩
theorem sn_xl_history_text (p q m : Nat) (hp : p + m ≤ 2544) (hq : q + m ≤ 64) (h : post (f_capacity, f_historyCap, f_length, f_caret, f_selStart, f_bodyLength, f_undoDepth, f_merge, f_itemCount, f_baseLength, f_basePos, f_activeStop, f_selected, f_draftCount, f_depth, f_readAt, sn_cp a_history p a_text q m, a_body, a_history, a_itemKind, a_itemValue, a_openAt, a_closeAt, a_base, a_typedLength, a_typedText, a_draftKind, a_draftValue, a_draftOpenAt, a_draftCloseAt, a_enclosing, a_trialLength)) : ∀ d i n, i + d = m → d < n → wX_copy__history_text_3 post (nI p) (nI q) (nI m) f_capacity f_historyCap f_length f_caret f_selStart f_bodyLength f_undoDepth f_merge f_itemCount f_baseLength f_basePos f_activeStop f_selected f_draftCount f_depth f_readAt n (nI i) (sn_cp a_history p a_text q i) a_body a_history a_itemKind a_itemValue a_openAt a_closeAt a_base a_typedLength a_typedText a_draftKind a_draftValue a_draftOpenAt a_draftCloseAt a_enclosing a_trialLength := by
  intro d
  induction d with
  | zero =>
    intro i n hi hn
    obtain ⟨n, rfl⟩ : ∃ k, n = k + 1 := ⟨n - 1, by omega⟩
    obtain rfl : i = m := by omega
    exact br_t (nI_le (Nat.le_refl _) (by omega)) h
  | succ d ih =>
    intro i n hi hn
    obtain ⟨n, rfl⟩ : ∃ k, n = k + 1 := ⟨n - 1, by omega⟩
    refine br_f (nI_ge (by omega) (by omega)) ⟨?_, ?_, ?_⟩
    · rw [nI_add]; exact vp_in_nI (by omega) (by omega)
    · rw [nI_add]; exact vp_in_nI (by omega) (by omega)
    · intro y ey z ez
      rw [nI_add, nI_add, nI_clamp (by omega), nI_clamp (by omega), sn_cpS] at ey
      rw [ez, nI_1, ey]
      exact ih (i + 1) n (by omega) (by omega)
theorem sn_xc_history_text {x1 x3 x4 : Int32} (p q m : Nat) (e1 : x1 = nI p) (e3 : x3 = nI q) (e4 : x4 = nI m) (hp : p + m ≤ 2544) (hq : q + m ≤ 64) (h : post (f_capacity, f_historyCap, f_length, f_caret, f_selStart, f_bodyLength, f_undoDepth, f_merge, f_itemCount, f_baseLength, f_basePos, f_activeStop, f_selected, f_draftCount, f_depth, f_readAt, sn_cp a_history p a_text q m, a_body, a_history, a_itemKind, a_itemValue, a_openAt, a_closeAt, a_base, a_typedLength, a_typedText, a_draftKind, a_draftValue, a_draftOpenAt, a_draftCloseAt, a_enclosing, a_trialLength)) : wpX_copy__history_text post (f_capacity, f_historyCap, f_length, f_caret, f_selStart, f_bodyLength, f_undoDepth, f_merge, f_itemCount, f_baseLength, f_basePos, f_activeStop, f_selected, f_draftCount, f_depth, f_readAt, a_text, a_body, a_history, a_itemKind, a_itemValue, a_openAt, a_closeAt, a_base, a_typedLength, a_typedText, a_draftKind, a_draftValue, a_draftOpenAt, a_draftCloseAt, a_enclosing, a_trialLength) x1 x3 x4 := by
  subst e1 e3 e4
  have w := sn_xl_history_text p q m hp hq h m 0 (m + 1) (by omega) (by omega)
  rw [sn_cp0] at w
  exact ⟨m + 1, w⟩
theorem sn_xl_history_typedLength (p q m : Nat) (hp : p + m ≤ 2544) (hq : q + m ≤ 10) (h : post (f_capacity, f_historyCap, f_length, f_caret, f_selStart, f_bodyLength, f_undoDepth, f_merge, f_itemCount, f_baseLength, f_basePos, f_activeStop, f_selected, f_draftCount, f_depth, f_readAt, a_text, a_body, a_history, a_itemKind, a_itemValue, a_openAt, a_closeAt, a_base, sn_cp a_history p a_typedLength q m, a_typedText, a_draftKind, a_draftValue, a_draftOpenAt, a_draftCloseAt, a_enclosing, a_trialLength)) : ∀ d i n, i + d = m → d < n → wX_copy__history_typedLength_3 post (nI p) (nI q) (nI m) f_capacity f_historyCap f_length f_caret f_selStart f_bodyLength f_undoDepth f_merge f_itemCount f_baseLength f_basePos f_activeStop f_selected f_draftCount f_depth f_readAt n (nI i) a_text a_body a_history a_itemKind a_itemValue a_openAt a_closeAt a_base (sn_cp a_history p a_typedLength q i) a_typedText a_draftKind a_draftValue a_draftOpenAt a_draftCloseAt a_enclosing a_trialLength := by
  intro d
  induction d with
  | zero =>
    intro i n hi hn
    obtain ⟨n, rfl⟩ : ∃ k, n = k + 1 := ⟨n - 1, by omega⟩
    obtain rfl : i = m := by omega
    exact br_t (nI_le (Nat.le_refl _) (by omega)) h
  | succ d ih =>
    intro i n hi hn
    obtain ⟨n, rfl⟩ : ∃ k, n = k + 1 := ⟨n - 1, by omega⟩
    refine br_f (nI_ge (by omega) (by omega)) ⟨?_, ?_, ?_⟩
    · rw [nI_add]; exact vp_in_nI (by omega) (by omega)
    · rw [nI_add]; exact vp_in_nI (by omega) (by omega)
    · intro y ey z ez
      rw [nI_add, nI_add, nI_clamp (by omega), nI_clamp (by omega), sn_cpS] at ey
      rw [ez, nI_1, ey]
      exact ih (i + 1) n (by omega) (by omega)
theorem sn_xc_history_typedLength {x1 x3 x4 : Int32} (p q m : Nat) (e1 : x1 = nI p) (e3 : x3 = nI q) (e4 : x4 = nI m) (hp : p + m ≤ 2544) (hq : q + m ≤ 10) (h : post (f_capacity, f_historyCap, f_length, f_caret, f_selStart, f_bodyLength, f_undoDepth, f_merge, f_itemCount, f_baseLength, f_basePos, f_activeStop, f_selected, f_draftCount, f_depth, f_readAt, a_text, a_body, a_history, a_itemKind, a_itemValue, a_openAt, a_closeAt, a_base, sn_cp a_history p a_typedLength q m, a_typedText, a_draftKind, a_draftValue, a_draftOpenAt, a_draftCloseAt, a_enclosing, a_trialLength)) : wpX_copy__history_typedLength post (f_capacity, f_historyCap, f_length, f_caret, f_selStart, f_bodyLength, f_undoDepth, f_merge, f_itemCount, f_baseLength, f_basePos, f_activeStop, f_selected, f_draftCount, f_depth, f_readAt, a_text, a_body, a_history, a_itemKind, a_itemValue, a_openAt, a_closeAt, a_base, a_typedLength, a_typedText, a_draftKind, a_draftValue, a_draftOpenAt, a_draftCloseAt, a_enclosing, a_trialLength) x1 x3 x4 := by
  subst e1 e3 e4
  have w := sn_xl_history_typedLength p q m hp hq h m 0 (m + 1) (by omega) (by omega)
  rw [sn_cp0] at w
  exact ⟨m + 1, w⟩
theorem sn_xl_history_typedText (p q m : Nat) (hp : p + m ≤ 2544) (hq : q + m ≤ 80) (h : post (f_capacity, f_historyCap, f_length, f_caret, f_selStart, f_bodyLength, f_undoDepth, f_merge, f_itemCount, f_baseLength, f_basePos, f_activeStop, f_selected, f_draftCount, f_depth, f_readAt, a_text, a_body, a_history, a_itemKind, a_itemValue, a_openAt, a_closeAt, a_base, a_typedLength, sn_cp a_history p a_typedText q m, a_draftKind, a_draftValue, a_draftOpenAt, a_draftCloseAt, a_enclosing, a_trialLength)) : ∀ d i n, i + d = m → d < n → wX_copy__history_typedText_3 post (nI p) (nI q) (nI m) f_capacity f_historyCap f_length f_caret f_selStart f_bodyLength f_undoDepth f_merge f_itemCount f_baseLength f_basePos f_activeStop f_selected f_draftCount f_depth f_readAt n (nI i) a_text a_body a_history a_itemKind a_itemValue a_openAt a_closeAt a_base a_typedLength (sn_cp a_history p a_typedText q i) a_draftKind a_draftValue a_draftOpenAt a_draftCloseAt a_enclosing a_trialLength := by
  intro d
  induction d with
  | zero =>
    intro i n hi hn
    obtain ⟨n, rfl⟩ : ∃ k, n = k + 1 := ⟨n - 1, by omega⟩
    obtain rfl : i = m := by omega
    exact br_t (nI_le (Nat.le_refl _) (by omega)) h
  | succ d ih =>
    intro i n hi hn
    obtain ⟨n, rfl⟩ : ∃ k, n = k + 1 := ⟨n - 1, by omega⟩
    refine br_f (nI_ge (by omega) (by omega)) ⟨?_, ?_, ?_⟩
    · rw [nI_add]; exact vp_in_nI (by omega) (by omega)
    · rw [nI_add]; exact vp_in_nI (by omega) (by omega)
    · intro y ey z ez
      rw [nI_add, nI_add, nI_clamp (by omega), nI_clamp (by omega), sn_cpS] at ey
      rw [ez, nI_1, ey]
      exact ih (i + 1) n (by omega) (by omega)
theorem sn_xc_history_typedText {x1 x3 x4 : Int32} (p q m : Nat) (e1 : x1 = nI p) (e3 : x3 = nI q) (e4 : x4 = nI m) (hp : p + m ≤ 2544) (hq : q + m ≤ 80) (h : post (f_capacity, f_historyCap, f_length, f_caret, f_selStart, f_bodyLength, f_undoDepth, f_merge, f_itemCount, f_baseLength, f_basePos, f_activeStop, f_selected, f_draftCount, f_depth, f_readAt, a_text, a_body, a_history, a_itemKind, a_itemValue, a_openAt, a_closeAt, a_base, a_typedLength, sn_cp a_history p a_typedText q m, a_draftKind, a_draftValue, a_draftOpenAt, a_draftCloseAt, a_enclosing, a_trialLength)) : wpX_copy__history_typedText post (f_capacity, f_historyCap, f_length, f_caret, f_selStart, f_bodyLength, f_undoDepth, f_merge, f_itemCount, f_baseLength, f_basePos, f_activeStop, f_selected, f_draftCount, f_depth, f_readAt, a_text, a_body, a_history, a_itemKind, a_itemValue, a_openAt, a_closeAt, a_base, a_typedLength, a_typedText, a_draftKind, a_draftValue, a_draftOpenAt, a_draftCloseAt, a_enclosing, a_trialLength) x1 x3 x4 := by
  subst e1 e3 e4
  have w := sn_xl_history_typedText p q m hp hq h m 0 (m + 1) (by omega) (by omega)
  rw [sn_cp0] at w
  exact ⟨m + 1, w⟩
end SNJ
