section SNM
/-! X: writing the text -/
variable {K S oa ca sg dp pa st : Nat → Nat} {V L T : Nat → Int32} {c : Nat}
theorem sn_spMo {f : Nat} (n : Nat) : ∀ k, (sn_sp K V S oa ca L T f n).length ≤ (sn_sp K V S oa ca L T f (n + k)).length := by
  intro k
  induction k with
  | zero => exact Nat.le_refl _
  | succ k ih =>
    show _ ≤ (sn_sp K V S oa ca L T f (n + k + 1)).length
    rw [sn_sp, List.length_append]; omega
theorem sn_spMo' {f n m : Nat} (h : n ≤ m) : (sn_sp K V S oa ca L T f n).length ≤ (sn_sp K V S oa ca L T f m).length := by
  have a := sn_spMo (K := K) (V := V) (S := S) (oa := oa) (ca := ca) (L := L) (T := T) (f := f) n (m - n)
  rw [show n + (m - n) = m by omega] at a
  exact a
theorem sn_rrM' {n m : Nat} (h : n ≤ m) : (sn_rr K V S oa ca L T n).length ≤ (sn_rr K V S oa ca L T m).length := by
  have a := sn_rrM (K := K) (V := V) (S := S) (oa := oa) (ca := ca) (L := L) (T := T) (x := n) (m - n)
  rw [show n + (m - n) = m by omega] at a
  exact a
theorem sn_lo1 (x : Int32) : (x - 65) + 97 = x + 32 := by rw [Int32.sub_eq_add_neg, Int32.add_assoc]; rfl
theorem sn_up1 (x : Int32) : (x - 97) + 65 = x - 32 := by rw [Int32.sub_eq_add_neg, Int32.add_assoc, Int32.sub_eq_add_neg]; rfl
theorem sn_xlow {post : Int32 → Prop} {x : Int32} (h : post (sn_lo x)) : wpX_lower post x := by
  unfold sn_lo at h
  by_cases a : x < 65
  · rw [if_neg (fun z => absurd a (Int32.not_lt.mpr z.1))] at h; exact br_t a h
  · by_cases b : 90 < x
    · rw [if_neg (fun z => absurd b (Int32.not_lt.mpr z.2))] at h; exact br_f a (br_t b h)
    · rw [if_pos ⟨Int32.not_lt.mp a, Int32.not_lt.mp b⟩, ← sn_lo1] at h; exact br_f a (br_f b h)
theorem sn_xupp {post : Int32 → Prop} {x : Int32} (h : post (sn_up x)) : wpX_upper post x := by
  unfold sn_up at h
  by_cases a : x < 97
  · rw [if_neg (fun z => absurd a (Int32.not_lt.mpr z.1))] at h; exact br_t a h
  · by_cases b : 122 < x
    · rw [if_neg (fun z => absurd b (Int32.not_lt.mpr z.2))] at h; exact br_f a (br_t b h)
    · rw [if_pos ⟨Int32.not_lt.mp a, Int32.not_lt.mp b⟩, ← sn_up1] at h; exact br_f a (br_f b h)
variable {f_capacity f_historyCap f_length f_caret f_selStart f_bodyLength f_undoDepth f_merge f_itemCount f_baseLength f_basePos f_activeStop f_selected f_draftCount f_depth f_readAt : Int32} {a_text a_body a_history a_itemKind a_itemValue a_openAt a_closeAt a_base a_typedLength a_typedText a_draftKind a_draftValue a_draftOpenAt a_draftCloseAt a_enclosing a_trialLength : Nat → Int32}
variable {post : SX → Prop} {t : Nat → Int32}
theorem sn_xput {x : Int32} (l : List Int32) (hl : l.length < 64) (h : post (f_capacity, f_historyCap, nI (l ++ [x]).length, f_caret, f_selStart, f_bodyLength, f_undoDepth, f_merge, f_itemCount, f_baseLength, f_basePos, f_activeStop, f_selected, f_draftCount, f_depth, f_readAt, sn_wr t 0 (l ++ [x]), a_body, a_history, a_itemKind, a_itemValue, a_openAt, a_closeAt, a_base, a_typedLength, a_typedText, a_draftKind, a_draftValue, a_draftOpenAt, a_draftCloseAt, a_enclosing, a_trialLength)) : wpX_put post (f_capacity, f_historyCap, nI l.length, f_caret, f_selStart, f_bodyLength, f_undoDepth, f_merge, f_itemCount, f_baseLength, f_basePos, f_activeStop, f_selected, f_draftCount, f_depth, f_readAt, sn_wr t 0 l, a_body, a_history, a_itemKind, a_itemValue, a_openAt, a_closeAt, a_base, a_typedLength, a_typedText, a_draftKind, a_draftValue, a_draftOpenAt, a_draftCloseAt, a_enclosing, a_trialLength) x := by
  refine br_f (nI_ge (b := 64) (by omega) (by omega)) ⟨vp_in_nI hl (by omega), fun y ey z ez => ?_⟩
  rw [nI_clamp (by omega), sn_wrS t 0 _ l x (by omega)] at ey
  rw [ey, ez, nI_1, ← sn_len1 l x]; exact h
theorem sn_xwbl (p e : Nat) (he : e ≤ 64) (l : List Int32) (hl : l.length + (e - p) ≤ 64)
    (h : post (f_capacity, f_historyCap, nI (l ++ sn_ls (fun k => a_base (p + k)) (e - p)).length, f_caret, f_selStart, f_bodyLength, f_undoDepth, f_merge, f_itemCount, f_baseLength, f_basePos, f_activeStop, f_selected, f_draftCount, f_depth, f_readAt, sn_wr t 0 (l ++ sn_ls (fun k => a_base (p + k)) (e - p)), a_body, a_history, a_itemKind, a_itemValue, a_openAt, a_closeAt, a_base, a_typedLength, a_typedText, a_draftKind, a_draftValue, a_draftOpenAt, a_draftCloseAt, a_enclosing, a_trialLength)) :
    ∀ m k n, p + k + m = e → m < n → wX_writeBase_2 post (nI e) n (nI (p + k)) f_capacity f_historyCap (nI (l ++ sn_ls (fun k => a_base (p + k)) k).length) f_caret f_selStart f_bodyLength f_undoDepth f_merge f_itemCount f_baseLength f_basePos f_activeStop f_selected f_draftCount f_depth f_readAt (sn_wr t 0 (l ++ sn_ls (fun k => a_base (p + k)) k)) a_body a_history a_itemKind a_itemValue a_openAt a_closeAt a_base a_typedLength a_typedText a_draftKind a_draftValue a_draftOpenAt a_draftCloseAt a_enclosing a_trialLength := by
  intro m
  induction m with
  | zero =>
    intro k n hi hn
    obtain ⟨n, rfl⟩ : ∃ k, n = k + 1 := ⟨n - 1, by omega⟩
    obtain rfl : k = e - p := by omega
    exact br_t (nI_le (by omega) (by omega)) h
  | succ m ih =>
    intro k n hi hn
    obtain ⟨n, rfl⟩ : ∃ k, n = k + 1 := ⟨n - 1, by omega⟩
    refine br_f (nI_ge (by omega) (by omega)) ⟨vp_in_nI (by omega) (by omega), ?_⟩
    rw [nI_clamp (by omega)]
    refine sn_xput _ (by rw [List.length_append, sn_lsL]; omega) ?_
    intro y ey
    rw [ey, nI_1, List.append_assoc]
    exact ih (k + 1) n (by omega) (by omega)
theorem sn_xwb {x1 x2 : Int32} (p e : Nat) (e1 : x1 = nI p) (e2 : x2 = nI e) (hpe : p ≤ e) (he : e ≤ 64) (l : List Int32) (hl : l.length + (e - p) ≤ 64)
    (h : post (f_capacity, f_historyCap, nI (l ++ sn_ls (fun k => a_base (p + k)) (e - p)).length, f_caret, f_selStart, f_bodyLength, f_undoDepth, f_merge, f_itemCount, f_baseLength, f_basePos, f_activeStop, f_selected, f_draftCount, f_depth, f_readAt, sn_wr t 0 (l ++ sn_ls (fun k => a_base (p + k)) (e - p)), a_body, a_history, a_itemKind, a_itemValue, a_openAt, a_closeAt, a_base, a_typedLength, a_typedText, a_draftKind, a_draftValue, a_draftOpenAt, a_draftCloseAt, a_enclosing, a_trialLength)) :
    wpX_writeBase post (f_capacity, f_historyCap, nI l.length, f_caret, f_selStart, f_bodyLength, f_undoDepth, f_merge, f_itemCount, f_baseLength, f_basePos, f_activeStop, f_selected, f_draftCount, f_depth, f_readAt, sn_wr t 0 l, a_body, a_history, a_itemKind, a_itemValue, a_openAt, a_closeAt, a_base, a_typedLength, a_typedText, a_draftKind, a_draftValue, a_draftOpenAt, a_draftCloseAt, a_enclosing, a_trialLength) x1 x2 := by
  subst e1 e2
  have w := sn_xwbl p e he l hl h (e - p) 0 (e - p + 1) (by omega) (by omega)
  rw [show sn_ls (fun k => a_base (p + k)) 0 = [] from rfl, List.append_nil] at w
  exact ⟨_, w⟩
theorem sn_xw73 {J : _} {x2 x4 : Int32} (s mm : Nat) (hs : s ≤ 9) (em : a_typedLength s = nI mm) (hm : mm ≤ 8) (l : List Int32) (hl : l.length + mm ≤ 64)
    (h : ∀ a b : Int32, a = a_closeAt s → b = x4 + 1 → J a b f_capacity f_historyCap (nI (l ++ sn_ls (fun k => a_typedText (s * 8 + k)) mm).length) f_caret f_selStart f_bodyLength f_undoDepth f_merge f_itemCount f_baseLength f_basePos f_activeStop f_selected f_draftCount f_depth f_readAt (sn_wr t 0 (l ++ sn_ls (fun k => a_typedText (s * 8 + k)) mm)) a_body a_history a_itemKind a_itemValue a_openAt a_closeAt a_base a_typedLength a_typedText a_draftKind a_draftValue a_draftOpenAt a_draftCloseAt a_enclosing a_trialLength) :
    ∀ m k n, k + m = mm → m < n → wX_writeSpan_73 post J x2 x4 (nI s) n (nI k) f_capacity f_historyCap (nI (l ++ sn_ls (fun k => a_typedText (s * 8 + k)) k).length) f_caret f_selStart f_bodyLength f_undoDepth f_merge f_itemCount f_baseLength f_basePos f_activeStop f_selected f_draftCount f_depth f_readAt (sn_wr t 0 (l ++ sn_ls (fun k => a_typedText (s * 8 + k)) k)) a_body a_history a_itemKind a_itemValue a_openAt a_closeAt a_base a_typedLength a_typedText a_draftKind a_draftValue a_draftOpenAt a_draftCloseAt a_enclosing a_trialLength := by
  have cs : (nI s).toNatClampNeg = s := nI_clamp (by omega)
  have v10 : vp_in (nI s) 10 := vp_in_nI (by omega) (by omega)
  intro m
  induction m with
  | zero =>
    intro k n hi hn
    obtain ⟨n, rfl⟩ : ∃ k, n = k + 1 := ⟨n - 1, by omega⟩
    obtain rfl : k = mm := by omega
    refine ⟨v10, ?_⟩
    rw [cs, em]
    exact br_t (nI_le (Nat.le_refl _) (by omega)) ⟨v10, fun a ea b eb => h a b ea eb⟩
  | succ m ih =>
    intro k n hi hn
    obtain ⟨n, rfl⟩ : ∃ k, n = k + 1 := ⟨n - 1, by omega⟩
    refine ⟨v10, ?_⟩
    have ix : nI s * 8 + nI k = nI (s * 8 + k) := by rw [sn_mu s 8 rfl, nI_add]
    rw [cs, em, ix, nI_clamp (show s * 8 + k < 2 ^ 31 by omega)]
    refine br_f (nI_ge (by omega) (by omega)) ⟨vp_in_nI (by omega) (by omega), ?_⟩
    refine sn_xput _ (by rw [List.length_append, sn_lsL]; omega) ?_
    intro y ey
    rw [ey, nI_1, List.append_assoc]
    exact ih (k + 1) n (by omega) (by omega)
theorem sn_xw73o {J : _} {x2 x4 : Int32} (s mm : Nat) (hs : s ≤ 9) (em : a_typedLength s = nI mm) (hm : mm ≤ 8) (l : List Int32) (hl : l.length + mm ≤ 64)
    (h : ∀ a b : Int32, a = a_closeAt s → b = x4 + 1 → J a b f_capacity f_historyCap (nI (l ++ sn_ls (fun k => a_typedText (s * 8 + k)) mm).length) f_caret f_selStart f_bodyLength f_undoDepth f_merge f_itemCount f_baseLength f_basePos f_activeStop f_selected f_draftCount f_depth f_readAt (sn_wr t 0 (l ++ sn_ls (fun k => a_typedText (s * 8 + k)) mm)) a_body a_history a_itemKind a_itemValue a_openAt a_closeAt a_base a_typedLength a_typedText a_draftKind a_draftValue a_draftOpenAt a_draftCloseAt a_enclosing a_trialLength) :
    ∃ n, wX_writeSpan_73 post J x2 x4 (nI s) n 0 f_capacity f_historyCap (nI l.length) f_caret f_selStart f_bodyLength f_undoDepth f_merge f_itemCount f_baseLength f_basePos f_activeStop f_selected f_draftCount f_depth f_readAt (sn_wr t 0 l) a_body a_history a_itemKind a_itemValue a_openAt a_closeAt a_base a_typedLength a_typedText a_draftKind a_draftValue a_draftOpenAt a_draftCloseAt a_enclosing a_trialLength := by
  have z := sn_xw73 (post := post) (x2 := x2) s mm hs em hm l hl h mm 0 (mm + 1) (by omega) (by omega)
  rw [show sn_ls (fun k => a_typedText (s * 8 + k)) 0 = [] from rfl, List.append_nil] at z
  exact ⟨_, z⟩
theorem sn_xwsl (P : sn_PI c 0 st K V S oa ca sg dp pa) (hc : c ≤ 65) (XS : sn_XS c K V oa ca a_itemKind a_itemValue a_openAt a_closeAt) (hL : sn_LL a_typedLength) {f e : Nat} (he : e ≤ c) (l : List Int32)
    (hl : l.length + (sn_sp K V S oa ca a_typedLength a_typedText f (e - f)).length ≤ 64)
    (h : post (f_capacity, f_historyCap, nI (l ++ sn_sp K V S oa ca a_typedLength a_typedText f (e - f)).length, f_caret, f_selStart, f_bodyLength, f_undoDepth, f_merge, f_itemCount, f_baseLength, f_basePos, f_activeStop, f_selected, f_draftCount, f_depth, f_readAt, sn_wr t 0 (l ++ sn_sp K V S oa ca a_typedLength a_typedText f (e - f)), a_body, a_history, a_itemKind, a_itemValue, a_openAt, a_closeAt, a_base, a_typedLength, a_typedText, a_draftKind, a_draftValue, a_draftOpenAt, a_draftCloseAt, a_enclosing, a_trialLength)) :
    ∀ m i h' n, i + m = e → f ≤ i → m < n → sn_HU oa ca a_typedLength f i h' → h' ≤ 1000 → wX_writeSpan_5 post (nI e) n (nI h') (nI i) f_capacity f_historyCap (nI (l ++ sn_sp K V S oa ca a_typedLength a_typedText f (i - f)).length) f_caret f_selStart f_bodyLength f_undoDepth f_merge f_itemCount f_baseLength f_basePos f_activeStop f_selected f_draftCount f_depth f_readAt (sn_wr t 0 (l ++ sn_sp K V S oa ca a_typedLength a_typedText f (i - f))) a_body a_history a_itemKind a_itemValue a_openAt a_closeAt a_base a_typedLength a_typedText a_draftKind a_draftValue a_draftOpenAt a_draftCloseAt a_enclosing a_trialLength := by
  intro m
  induction m with
  | zero =>
    intro i h' n hi hf hn H hh
    obtain ⟨n, rfl⟩ : ∃ k, n = k + 1 := ⟨n - 1, by omega⟩
    obtain rfl : i = e := by omega
    exact br_t (nI_le (Nat.le_refl _) (by omega)) h
  | succ m ih =>
    intro i h' n hi hf hn H hh
    obtain ⟨n, rfl⟩ : ∃ k, n = k + 1 := ⟨n - 1, by omega⟩
    have hic : i < c := by omega
    have e1 : sn_sp K V S oa ca a_typedLength a_typedText f (i + 1 - f) = sn_sp K V S oa ca a_typedLength a_typedText f (i - f) ++ sn_out K V S oa ca a_typedLength a_typedText f i := by
      rw [show i + 1 - f = (i - f) + 1 by omega, sn_sp, show f + (i - f) = i by omega]
    have lm := sn_spMo' (K := K) (V := V) (S := S) (oa := oa) (ca := ca) (L := a_typedLength) (T := a_typedText) (f := f) (show i + 1 - f ≤ e - f by omega)
    have ck : (nI i).toNatClampNeg = i := nI_clamp (by omega)
    have v65 : vp_in (nI i) 65 := vp_in_nI (by omega) (by omega)
    have K7 : K i ≤ 7 := by rcases P.2.2.2.2.1 i hic with a | a | a | a | a <;> omega
    have skip : sn_out K V S oa ca a_typedLength a_typedText f i = [] → (i < h' ∨ ¬ (K i = 1 ∧ a_typedLength (S i) ≠ -1)) → ∀ y : Int32, y = nI i + 1 → wX_writeSpan_5 post (nI e) n (nI h') y f_capacity f_historyCap (nI (l ++ sn_sp K V S oa ca a_typedLength a_typedText f (i - f)).length) f_caret f_selStart f_bodyLength f_undoDepth f_merge f_itemCount f_baseLength f_basePos f_activeStop f_selected f_draftCount f_depth f_readAt (sn_wr t 0 (l ++ sn_sp K V S oa ca a_typedLength a_typedText f (i - f))) a_body a_history a_itemKind a_itemValue a_openAt a_closeAt a_base a_typedLength a_typedText a_draftKind a_draftValue a_draftOpenAt a_draftCloseAt a_enclosing a_trialLength := by
      intro eo z y ey
      have w := ih (i + 1) h' n (by omega) (by omega) (by omega) (sn_huA P.2.2.2.1 P.2.2.2.2.2.2.1 (by omega) H z) hh
      rw [e1, eo, List.append_nil] at w
      rw [ey, nI_1]; exact w
    refine br_f (nI_ge (by omega) (by omega)) ?_
    by_cases hhi : h' ≤ i
    · have nh : ¬ sn_hid oa ca a_typedLength f i := fun z => by
        have := (sn_huH H).mpr z
        omega
      refine br_t (nI_le hhi (by omega)) ⟨v65, fun v ev => ⟨v65, ?_⟩⟩
      rw [ck, (XS.1 i hic).2] at ev
      rw [ck, (XS.1 i hic).1]
      by_cases k0 : K i = 0
      · refine br_t (by rw [k0]; rfl) ?_
        rw [e1, sn_out0 nh k0, sn_len1] at lm
        refine sn_xput _ (by rw [List.length_append]; omega) ?_
        intro b eb
        have w := ih (i + 1) h' n (by omega) (by omega) (by omega) (sn_huA P.2.2.2.1 P.2.2.2.2.2.2.1 (by omega) H (Or.inr (by omega))) hh
        rw [e1, sn_out0 nh k0, ← List.append_assoc, ← ev] at w
        rw [eb, nI_1]; exact w
      · refine br_f (sn_ne k0 (by omega) (by omega)) ⟨v65, ?_⟩
        by_cases k1 : K i = 1
        · refine br_t (by rw [k1]; rfl) ?_
          have q : 1 ≤ S i ∧ S i ≤ 9 ∧ ca (S i) < c := by
            have h0 := P.1
            rcases P.2.2.2.2.1 i hic with a | a | a | a | a
            · omega
            · rcases sn_clo P (S i) with b | b | b <;> omega
            · omega
            · omega
            · omega
          have vv : v = nI (S i) := by rw [ev]; exact P.2.2.1 i hic k0
          subst vv
          have cs : (nI (S i)).toNatClampNeg = S i := nI_clamp (by omega)
          have v10 : vp_in (nI (S i)) 10 := vp_in_nI (by omega) (by omega)
          refine ⟨v10, ?_⟩
          rw [cs]
          by_cases l1 : a_typedLength (S i) = -1
          · exact br_t l1 (skip (sn_out2 k0 (fun z => z.2 l1)) (Or.inr (fun z => z.2 l1)))
          · rcases hL (S i) q.2.1 with z | ⟨mm, hm, em⟩
            · exact absurd z l1
            · have h0 := P.1
              have cl : a_closeAt (S i) = nI (ca (S i)) := by rw [XS.2.2 (S i) q.2.1, sn_o1 (by omega)]
              have et : sn_out K V S oa ca a_typedLength a_typedText f i = sn_ls (fun k => a_typedText (S i * 8 + k)) mm := by
                rw [sn_out1 nh k1 l1]; unfold sn_ty; rw [em, nI_clamp (by omega)]
              rw [e1, et, List.length_append, sn_lsL] at lm
              have w := ih (i + 1) (ca (S i)) n (by omega) (by omega) (by omega) (sn_huB P.2.2.2.1 P.2.2.2.2.1 hic h0 hf H hhi k1 l1) (by omega)
              rw [e1, et, ← List.append_assoc] at w
              exact br_f l1 (sn_xw73o (S i) mm q.2.1 em hm (l ++ sn_sp K V S oa ca a_typedLength a_typedText f (i - f)) (by rw [List.length_append]; omega) (fun a b ea eb => by rw [ea, eb, cl, nI_1]; exact w))
        · exact br_f (sn_ne k1 (by omega) (by omega)) (skip (sn_out2 k0 (fun z => k1 z.1)) (Or.inr (fun z => k1 z.1)))
    · exact br_f (nI_ge (by omega) (by omega)) (skip (sn_outH ((sn_huH H).mp (by omega))) (Or.inl (by omega)))
theorem sn_xws {x1 x2 : Int32} (P : sn_PI c 0 st K V S oa ca sg dp pa) (hc : c ≤ 65) (XS : sn_XS c K V oa ca a_itemKind a_itemValue a_openAt a_closeAt) (hL : sn_LL a_typedLength) (f e : Nat) (e1 : x1 = nI f) (e2 : x2 = nI e) (hfe : f ≤ e) (he : e ≤ c) (l : List Int32)
    (hl : l.length + (sn_sp K V S oa ca a_typedLength a_typedText f (e - f)).length ≤ 64)
    (h : post (f_capacity, f_historyCap, nI (l ++ sn_sp K V S oa ca a_typedLength a_typedText f (e - f)).length, f_caret, f_selStart, f_bodyLength, f_undoDepth, f_merge, f_itemCount, f_baseLength, f_basePos, f_activeStop, f_selected, f_draftCount, f_depth, f_readAt, sn_wr t 0 (l ++ sn_sp K V S oa ca a_typedLength a_typedText f (e - f)), a_body, a_history, a_itemKind, a_itemValue, a_openAt, a_closeAt, a_base, a_typedLength, a_typedText, a_draftKind, a_draftValue, a_draftOpenAt, a_draftCloseAt, a_enclosing, a_trialLength)) :
    wpX_writeSpan post (f_capacity, f_historyCap, nI l.length, f_caret, f_selStart, f_bodyLength, f_undoDepth, f_merge, f_itemCount, f_baseLength, f_basePos, f_activeStop, f_selected, f_draftCount, f_depth, f_readAt, sn_wr t 0 l, a_body, a_history, a_itemKind, a_itemValue, a_openAt, a_closeAt, a_base, a_typedLength, a_typedText, a_draftKind, a_draftValue, a_draftOpenAt, a_draftCloseAt, a_enclosing, a_trialLength) x1 x2 := by
  subst e1 e2
  have w := sn_xwsl P hc XS hL he l hl h (e - f) f f (e - f + 1) (by omega) (Nat.le_refl _) (by omega) sn_hu0 (by omega)
  rw [Nat.sub_self, show sn_sp K V S oa ca a_typedLength a_typedText f 0 = [] from rfl, List.append_nil] at w
  exact ⟨_, w⟩
end SNM
