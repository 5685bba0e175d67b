section SNN
/-! X: mirrors and the whole text -/
variable {K S oa ca sg dp pa st : Nat → Nat} {V : Nat → Int32} {c : Nat}
variable {f_capacity f_historyCap f_length f_caret f_selStart f_bodyLength f_undoDepth f_merge f_itemCount f_baseLength f_basePos f_activeStop f_selected f_draftCount f_depth f_readAt : Int32} {a_text a_body a_history a_itemKind a_itemValue a_openAt a_closeAt a_base a_typedLength a_typedText a_draftKind a_draftValue a_draftOpenAt a_draftCloseAt a_enclosing a_trialLength : Nat → Int32}
variable {post : SX → Prop} {t : Nat → Int32}
theorem sn_xm42 (k p E N M : Nat) (hk : 4 ≤ k ∧ k ≤ 7) (hk7 : k = 7 → E = 1) (hN : p + N ≤ 64) (hE : E ≤ 64) (hM : (M = E ∧ E ≤ N) ∨ (M = N ∧ N < E)) (h : post (f_capacity, f_historyCap, nI (p + N), f_caret, f_selStart, f_bodyLength, f_undoDepth, f_merge, f_itemCount, f_baseLength, f_basePos, f_activeStop, f_selected, f_draftCount, f_depth, f_readAt, sn_tm k p M t, a_body, a_history, a_itemKind, a_itemValue, a_openAt, a_closeAt, a_base, a_typedLength, a_typedText, a_draftKind, a_draftValue, a_draftOpenAt, a_draftCloseAt, a_enclosing, a_trialLength)) :
    ∀ m j n, j + m = M → m < n → wX_writeMirror_42 post (nI k) (nI (p + E)) f_capacity f_historyCap (nI (p + N)) f_caret f_selStart f_bodyLength f_undoDepth f_merge f_itemCount f_baseLength f_basePos f_activeStop f_selected f_draftCount f_depth f_readAt n (nI (p + j)) (sn_tm k p j t) a_body a_history a_itemKind a_itemValue a_openAt a_closeAt a_base a_typedLength a_typedText a_draftKind a_draftValue a_draftOpenAt a_draftCloseAt a_enclosing a_trialLength := by
  intro m
  induction m with
  | zero =>
    intro j n hi hn
    obtain ⟨n, rfl⟩ : ∃ k, n = k + 1 := ⟨n - 1, by omega⟩
    obtain rfl : j = M := by omega
    rcases hM with ⟨h1, h2⟩ | ⟨h1, h2⟩
    · exact br_t (nI_le (by omega) (by omega)) h
    · exact br_f (nI_ge (by omega) (by omega)) (br_t (nI_le (by omega) (by omega)) h)
  | succ m ih =>
    intro j n hi hn
    obtain ⟨n, rfl⟩ : ∃ k, n = k + 1 := ⟨n - 1, by omega⟩
    have w := ih (j + 1) n (by omega) (by omega)
    have ck : (nI (p + j)).toNatClampNeg = p + j := nI_clamp (by omega)
    have v64 : vp_in (nI (p + j)) 64 := vp_in_nI (by omega) (by omega)
    refine br_f (nI_ge (by omega) (by omega)) (br_f (nI_ge (by omega) (by omega)) ?_)
    rw [ck, sn_tmA]
    by_cases k6 : k = 6
    · refine br_t (by rw [k6]; rfl) ⟨v64, sn_xlow ⟨v64, fun y ey z ez => ?_⟩⟩
      have e : sn_lo (t (p + j)) = sn_tc k j (t (p + j)) := by unfold sn_tc; rw [if_neg (by omega), if_pos k6]
      rw [e, sn_tmS] at ey
      rw [ey, ez, nI_1]; exact w
    · refine br_f (sn_ne k6 (by omega) (by omega)) ?_
      by_cases k4 : k = 4
      · refine br_t (by rw [k4]; rfl) (fun z ez => ?_)
        rw [k4, sn_tm4] at w
        rw [k4, sn_tm4, ez, nI_1]; exact w
      · refine br_f (sn_ne k4 (by omega) (by omega)) ⟨v64, sn_xupp ⟨v64, fun y ey z ez => ?_⟩⟩
        have e : sn_up (t (p + j)) = sn_tc k j (t (p + j)) := by
          unfold sn_tc
          by_cases k5 : k = 5
          · rw [if_pos k5]
          · have k7 : k = 7 := by omega
            have e1 := hk7 k7
            rw [if_neg k5, if_neg k6, if_pos ⟨k7, by omega⟩]
        rw [e, sn_tmS] at ey
        rw [ey, ez, nI_1]; exact w
theorem sn_xmir {x1 x2 : Int32} (P : sn_PI c 0 st K V S oa ca sg dp pa) (hc : c ≤ 65) (XS : sn_XS c K V oa ca a_itemKind a_itemValue a_openAt a_closeAt) (hL : sn_LL a_typedLength) (s k : Nat) (e1 : x1 = nI s) (e2 : x2 = nI k) (h1 : 1 ≤ s) (h9 : s ≤ 9) (hs : oa s < c) (hk : 4 ≤ k ∧ k ≤ 7) (l : List Int32)
    (hl : l.length + (sn_pt K V S oa ca a_typedLength a_typedText s).length ≤ 64)
    (h : post (f_capacity, f_historyCap, nI (l ++ sn_tr k (sn_pt K V S oa ca a_typedLength a_typedText s)).length, f_caret, f_selStart, f_bodyLength, f_undoDepth, f_merge, f_itemCount, f_baseLength, f_basePos, f_activeStop, f_selected, f_draftCount, f_depth, f_readAt, sn_wr t 0 (l ++ sn_tr k (sn_pt K V S oa ca a_typedLength a_typedText s)), a_body, a_history, a_itemKind, a_itemValue, a_openAt, a_closeAt, a_base, a_typedLength, a_typedText, a_draftKind, a_draftValue, a_draftOpenAt, a_draftCloseAt, a_enclosing, a_trialLength)) :
    wpX_writeMirror post (f_capacity, f_historyCap, nI l.length, f_caret, f_selStart, f_bodyLength, f_undoDepth, f_merge, f_itemCount, f_baseLength, f_basePos, f_activeStop, f_selected, f_draftCount, f_depth, f_readAt, sn_wr t 0 l, a_body, a_history, a_itemKind, a_itemValue, a_openAt, a_closeAt, a_base, a_typedLength, a_typedText, a_draftKind, a_draftValue, a_draftOpenAt, a_draftCloseAt, a_enclosing, a_trialLength) x1 x2 := by
  subst e1 e2
  have h0 := P.1
  have q : oa s < ca s ∧ ca s < c := by rcases sn_clo P s with a | a | a <;> omega
  have cs : (nI s).toNatClampNeg = s := nI_clamp (by omega)
  have v10 : vp_in (nI s) 10 := vp_in_nI (by omega) (by omega)
  refine ⟨v10, v10, ?_⟩
  rw [cs]
  refine sn_xws P hc XS hL (oa s) (ca s) (by rw [XS.2.1 _ h9, sn_o1 (by omega)]) (by rw [XS.2.2 _ h9, sn_o1 (by omega)]) (by omega) (by omega) l hl ?_
  have ew : sn_wr t 0 (l ++ sn_pt K V S oa ca a_typedLength a_typedText s) = sn_wr (sn_wr t 0 l) l.length (sn_pt K V S oa ca a_typedLength a_typedText s) := by rw [← sn_wrA, Nat.zero_add]
  have ew2 : sn_wr t 0 (l ++ sn_tr k (sn_pt K V S oa ca a_typedLength a_typedText s)) = sn_wr (sn_wr t 0 l) l.length (sn_tr k (sn_pt K V S oa ca a_typedLength a_typedText s)) := by rw [← sn_wrA, Nat.zero_add]
  have hlen : (l ++ sn_tr k (sn_pt K V S oa ca a_typedLength a_typedText s)).length = l.length + (sn_pt K V S oa ca a_typedLength a_typedText s).length := by rw [List.length_append, sn_trL]
  have hlen2 : (l ++ sn_pt K V S oa ca a_typedLength a_typedText s).length = l.length + (sn_pt K V S oa ca a_typedLength a_typedText s).length := by rw [List.length_append]
  rw [hlen, ew2] at h
  have fin : ∀ M E, (M = E ∧ E ≤ (sn_pt K V S oa ca a_typedLength a_typedText s).length) ∨ (M = (sn_pt K V S oa ca a_typedLength a_typedText s).length ∧ (sn_pt K V S oa ca a_typedLength a_typedText s).length < E) → (k = 7 → E = 1) → (k ≠ 7 → E = (sn_pt K V S oa ca a_typedLength a_typedText s).length) → E ≤ 64 →
      ∃ n, wX_writeMirror_42 post (nI k) (nI (l.length + E)) f_capacity f_historyCap (nI (l.length + (sn_pt K V S oa ca a_typedLength a_typedText s).length)) f_caret f_selStart f_bodyLength f_undoDepth f_merge f_itemCount f_baseLength f_basePos f_activeStop f_selected f_draftCount f_depth f_readAt n (nI l.length) (sn_wr t 0 (l ++ sn_pt K V S oa ca a_typedLength a_typedText s)) a_body a_history a_itemKind a_itemValue a_openAt a_closeAt a_base a_typedLength a_typedText a_draftKind a_draftValue a_draftOpenAt a_draftCloseAt a_enclosing a_trialLength := by
    intro M E hM h7 hn7 hE
    have et : sn_tm k l.length M (sn_wr t 0 (l ++ sn_pt K V S oa ca a_typedLength a_typedText s)) = sn_wr (sn_wr t 0 l) l.length (sn_tr k (sn_pt K V S oa ca a_typedLength a_typedText s)) := by
      rw [ew]
      by_cases k7 : k = 7
      · by_cases z : 1 ≤ (sn_pt K V S oa ca a_typedLength a_typedText s).length
        · have e1 := h7 k7
          rw [show M = 1 by omega, k7, sn_tm7 _ _ _ z]
        · rw [show M = (sn_pt K V S oa ca a_typedLength a_typedText s).length by have := h7 k7; omega, sn_tmE]
      · rw [show M = (sn_pt K V S oa ca a_typedLength a_typedText s).length by have := hn7 k7; omega, sn_tmE]
    have w := sn_xm42 (post := post) (t := sn_wr t 0 (l ++ sn_pt K V S oa ca a_typedLength a_typedText s)) k l.length E (sn_pt K V S oa ca a_typedLength a_typedText s).length M hk h7 (by omega) hE hM (by rw [et]; exact h) M 0 (M + 1) (by omega) (by omega)
    rw [sn_tm0] at w
    exact ⟨_, w⟩
  show (_ → _) ∧ (_ → _)
  rw [show (sn_sp K V S oa ca a_typedLength a_typedText (oa s) (ca s - oa s)) = sn_pt K V S oa ca a_typedLength a_typedText s from rfl, hlen2]
  by_cases k7 : k = 7
  · refine br_t (by rw [k7]; rfl) (fun y ey => ?_)
    rw [ey, nI_1]
    by_cases z : 1 ≤ (sn_pt K V S oa ca a_typedLength a_typedText s).length
    · exact fin 1 1 (Or.inl ⟨rfl, z⟩) (fun _ => rfl) (fun y => absurd k7 y) (by omega)
    · exact fin 0 1 (Or.inr ⟨by omega, by omega⟩) (fun _ => rfl) (fun y => absurd k7 y) (by omega)
  · exact br_f (sn_ne k7 (by omega) (by omega)) (fin _ _ (Or.inl ⟨rfl, Nat.le_refl _⟩) (fun y => absurd y k7) (fun _ => rfl) (by omega))
theorem sn_xrw18 (P : sn_PI c 0 st K V S oa ca sg dp pa) (hc : c ≤ 65) (XS : sn_XS c K V oa ca a_itemKind a_itemValue a_openAt a_closeAt) (hL : sn_LL a_typedLength) (bp bl : Nat) (hb : bp ≤ bl) (hb64 : bl ≤ 64) (B : List Int32)
    (hl : B.length + (sn_rr K V S oa ca a_typedLength a_typedText c).length + (bl - bp) ≤ 64)
    (h : post (f_capacity, f_historyCap, nI (B ++ sn_rr K V S oa ca a_typedLength a_typedText c ++ sn_ls (fun k => a_base (bp + k)) (bl - bp)).length, f_caret, f_selStart, f_bodyLength, f_undoDepth, f_merge, nI c, nI bl, nI bp, f_activeStop, f_selected, f_draftCount, f_depth, f_readAt, sn_wr t 0 (B ++ sn_rr K V S oa ca a_typedLength a_typedText c ++ sn_ls (fun k => a_base (bp + k)) (bl - bp)), a_body, a_history, a_itemKind, a_itemValue, a_openAt, a_closeAt, a_base, a_typedLength, a_typedText, a_draftKind, a_draftValue, a_draftOpenAt, a_draftCloseAt, a_enclosing, a_trialLength)) :
    ∀ m i f n, i + m = c → m < n → f ≤ i → (f = 0 ∨ (∃ q, f = q + 1 ∧ q < c ∧ 4 ≤ K q)) → (∀ x, f ≤ x → x < i → K x < 4) →
      wX_rewriteText_18 post n (nI f) (nI i) f_capacity f_historyCap (nI (B ++ sn_rr K V S oa ca a_typedLength a_typedText f).length) f_caret f_selStart f_bodyLength f_undoDepth f_merge (nI c) (nI bl) (nI bp) f_activeStop f_selected f_draftCount f_depth f_readAt (sn_wr t 0 (B ++ sn_rr K V S oa ca a_typedLength a_typedText f)) a_body a_history a_itemKind a_itemValue a_openAt a_closeAt a_base a_typedLength a_typedText a_draftKind a_draftValue a_draftOpenAt a_draftCloseAt a_enclosing a_trialLength := by
  intro m
  induction m with
  | zero =>
    intro i f n hi hn hf hm hk
    obtain ⟨n, rfl⟩ : ∃ k, n = k + 1 := ⟨n - 1, by omega⟩
    obtain rfl : i = c := by omega
    have er := sn_rrF (L := a_typedLength) (T := a_typedText) (f := f) (n := i - f) P hm (by omega) (fun x h1 h2 => hk x h1 (by omega))
    rw [show f + (i - f) = i by omega] at er
    refine br_t (nI_le (Nat.le_refl _) (by omega)) ?_
    refine sn_xws P hc XS hL f i rfl rfl hf (Nat.le_refl _) _ (by rw [er, List.length_append] at hl; rw [List.length_append]; omega) ?_
    rw [List.append_assoc, ← er]
    refine sn_xwb bp bl rfl rfl hb hb64 _ (by rw [List.length_append]; omega) ?_
    exact h
  | succ m ih =>
    intro i f n hi hn hf hm hk
    obtain ⟨n, rfl⟩ : ∃ k, n = k + 1 := ⟨n - 1, by omega⟩
    have hic : i < c := by omega
    have ck : (nI i).toNatClampNeg = i := nI_clamp (by omega)
    have v65 : vp_in (nI i) 65 := vp_in_nI (by omega) (by omega)
    have K7 : K i ≤ 7 := by rcases P.2.2.2.2.1 i hic with a | a | a | a | a <;> omega
    refine br_f (nI_ge (by omega) (by omega)) ⟨v65, ?_⟩
    rw [ck, (XS.1 i hic).1]
    by_cases k4 : K i < 4
    · refine br_t (nI_lt (b := 4) k4 (by omega)) (br_t rfl (fun y ey => ?_))
      rw [ey, nI_1]
      refine ih (i + 1) f n (by omega) (by omega) (by omega) hm (fun x h1 h2 => ?_)
      by_cases z : x = i
      · rw [z]; exact k4
      · exact hk x h1 (by omega)
    · have er := sn_rrF (L := a_typedLength) (T := a_typedText) (f := f) (n := i - f) P hm (by omega) (fun x h1 h2 => hk x h1 (by omega))
      rw [show f + (i - f) = i by omega] at er
      have q : 1 ≤ S i ∧ S i ≤ 9 ∧ oa (S i) < c := by
        rcases P.2.2.2.2.1 i hic with a | a | a | a | a <;> omega
      have l1 := sn_rrM' (K := K) (V := V) (S := S) (oa := oa) (ca := ca) (L := a_typedLength) (T := a_typedText) (show i + 1 ≤ c by omega)
      have l2 : sn_rr K V S oa ca a_typedLength a_typedText (i + 1) = sn_rr K V S oa ca a_typedLength a_typedText i ++ sn_tr (K i) (sn_pt K V S oa ca a_typedLength a_typedText (S i)) := by rw [sn_rr, if_pos (by omega)]
      have l3 : (sn_rr K V S oa ca a_typedLength a_typedText (i + 1)).length = (sn_rr K V S oa ca a_typedLength a_typedText i).length + (sn_pt K V S oa ca a_typedLength a_typedText (S i)).length := by rw [l2, List.length_append, sn_trL]
      have l4 : (sn_rr K V S oa ca a_typedLength a_typedText i).length = (sn_rr K V S oa ca a_typedLength a_typedText f).length + (sn_sp K V S oa ca a_typedLength a_typedText f (i - f)).length := by rw [er, List.length_append]
      refine br_f (nI_nlt (b := 4) (by omega) (by omega)) (br_f (by decide) ?_)
      refine sn_xws P hc XS hL f i rfl rfl hf (by omega) _ (by rw [List.length_append]; omega) ?_
      rw [List.append_assoc, ← er]
      refine ⟨v65, v65, ?_⟩
      rw [(XS.1 i hic).1, (XS.1 i hic).2]
      refine sn_xmir P hc XS hL (S i) (K i) (P.2.2.1 i hic (by omega)) rfl q.1 q.2.1 q.2.2 ⟨by omega, K7⟩ _ (by rw [List.length_append]; omega) ?_
      rw [List.append_assoc, ← l2]
      intro y ey z ez
      rw [ey, ez, nI_1]
      exact ih (i + 1) (i + 1) n (by omega) (by omega) (Nat.le_refl _) (Or.inr ⟨i, rfl, hic, by omega⟩) (fun x h1 h2 => absurd h1 (by omega))
theorem sn_xrw (P : sn_PI c 0 st K V S oa ca sg dp pa) (hc : c ≤ 65) (XS : sn_XS c K V oa ca a_itemKind a_itemValue a_openAt a_closeAt) (hL : sn_LL a_typedLength) (bp bl : Nat) (hb : bp ≤ bl)
    (hl : bl + (sn_rr K V S oa ca a_typedLength a_typedText c).length ≤ 64)
    (h : post (f_capacity, f_historyCap, nI (bl + (sn_rr K V S oa ca a_typedLength a_typedText c).length), f_caret, f_selStart, f_bodyLength, f_undoDepth, f_merge, nI c, nI bl, nI bp, f_activeStop, f_selected, f_draftCount, f_depth, f_readAt, sn_wr a_text 0 (sn_ls a_base bp ++ sn_rr K V S oa ca a_typedLength a_typedText c ++ sn_ls (fun k => a_base (bp + k)) (bl - bp)), a_body, a_history, a_itemKind, a_itemValue, a_openAt, a_closeAt, a_base, a_typedLength, a_typedText, a_draftKind, a_draftValue, a_draftOpenAt, a_draftCloseAt, a_enclosing, a_trialLength)) :
    wpX_rewriteText post (f_capacity, f_historyCap, f_length, f_caret, f_selStart, f_bodyLength, f_undoDepth, f_merge, nI c, nI bl, nI bp, f_activeStop, f_selected, f_draftCount, f_depth, f_readAt, a_text, a_body, a_history, a_itemKind, a_itemValue, a_openAt, a_closeAt, a_base, a_typedLength, a_typedText, a_draftKind, a_draftValue, a_draftOpenAt, a_draftCloseAt, a_enclosing, a_trialLength) := by
  have w0 : sn_wr a_text 0 [] = a_text := sn_wr0 _ _
  have lb : (sn_ls a_base bp).length = bp := sn_lsL
  have e0 : sn_ls (fun k => a_base (0 + k)) (bp - 0) = sn_ls a_base bp := sn_lsC (fun k _ => by rw [Nat.zero_add])
  have hlen : (sn_ls a_base bp ++ sn_rr K V S oa ca a_typedLength a_typedText c ++ sn_ls (fun k => a_base (bp + k)) (bl - bp)).length = bl + (sn_rr K V S oa ca a_typedLength a_typedText c).length := by
    rw [List.length_append, List.length_append, sn_lsL, sn_lsL]; omega
  rw [← hlen] at h
  have w := sn_xrw18 (t := a_text) P hc XS hL bp bl hb (by omega) (sn_ls a_base bp) (by rw [lb]; omega) h c 0 0 (c + 1) (by omega) (by omega) (by omega) (Or.inl rfl) (fun x h1 h2 => absurd h2 (by omega))
  rw [show sn_rr K V S oa ca a_typedLength a_typedText 0 = [] from rfl, List.append_nil] at w
  have z := sn_xwb (post := fun u => match u with | (f_capacity, f_historyCap, f_length, f_caret, f_selStart, f_bodyLength, f_undoDepth, f_merge, f_itemCount, f_baseLength, f_basePos, f_activeStop, f_selected, f_draftCount, f_depth, f_readAt, a_text, a_body, a_history, a_itemKind, a_itemValue, a_openAt, a_closeAt, a_base, a_typedLength, a_typedText, a_draftKind, a_draftValue, a_draftOpenAt, a_draftCloseAt, a_enclosing, a_trialLength) => ∃ n18 : Nat, wX_rewriteText_18 post n18 0 0 f_capacity f_historyCap f_length f_caret f_selStart f_bodyLength f_undoDepth f_merge f_itemCount f_baseLength f_basePos f_activeStop f_selected f_draftCount f_depth f_readAt a_text a_body a_history a_itemKind a_itemValue a_openAt a_closeAt a_base a_typedLength a_typedText a_draftKind a_draftValue a_draftOpenAt a_draftCloseAt a_enclosing a_trialLength) (t := a_text) (f_capacity := f_capacity) (f_historyCap := f_historyCap) (f_caret := f_caret) (f_selStart := f_selStart) (f_bodyLength := f_bodyLength) (f_undoDepth := f_undoDepth) (f_merge := f_merge) (f_itemCount := nI c) (f_baseLength := nI bl) (f_basePos := nI bp) (f_activeStop := f_activeStop) (f_selected := f_selected) (f_draftCount := f_draftCount) (f_depth := f_depth) (f_readAt := f_readAt) (a_body := a_body) (a_history := a_history) (a_itemKind := a_itemKind) (a_itemValue := a_itemValue) (a_openAt := a_openAt) (a_closeAt := a_closeAt) (a_base := a_base) (a_typedLength := a_typedLength) (a_typedText := a_typedText) (a_draftKind := a_draftKind) (a_draftValue := a_draftValue) (a_draftOpenAt := a_draftOpenAt) (a_draftCloseAt := a_draftCloseAt) (a_enclosing := a_enclosing) (a_trialLength := a_trialLength) 0 bp (x1 := 0) (x2 := nI bp) rfl rfl (by omega) (by omega) [] (by show 0 + _ ≤ 64; omega) (by
    rw [List.nil_append, e0]
    exact ⟨_, w⟩)
  rw [w0] at z
  exact z
end SNN
