section SNY
/-! X: the rest of its private methods -/
variable {K S oa ca sg dp pa st : Nat → Nat} {V : Nat → Int32} {c : Nat}
def sn_sh (t : Nat → Int32) (k l : Nat) : Nat → Int32 := fun j => if k < j ∧ j ≤ l then t (j - 1) else t j
theorem sn_sh0 (t : Nat → Int32) (l : Nat) : sn_sh t l l = t := by
  funext j; unfold sn_sh; exact if_neg (by omega)
theorem sn_shS (t : Nat → Int32) (i l : Nat) (h : i + 1 ≤ l) : upd (sn_sh t (i + 1) l) (i + 1) (sn_sh t (i + 1) l i) = sn_sh t i l := by
  funext j; unfold sn_sh upd
  dsimp only
  by_cases z : j = i + 1
  · rw [if_pos z, if_neg (by omega), if_pos (by omega), z, Nat.add_sub_cancel]
  · rw [if_neg z]
    by_cases y : i + 1 < j ∧ j ≤ l
    · rw [if_pos y, if_pos (by omega)]
    · rw [if_neg y, if_neg (by omega)]
def sn_L0 : Nat → Int32 := fun _ => -1
theorem sn_hid0 {f x : Nat} : ¬ sn_hid oa ca sn_L0 f x := fun ⟨_, _, _, h, _⟩ => h rfl
theorem sn_LL0 : sn_LL sn_L0 := fun _ _ => Or.inl rfl
theorem sn_clamp {post : Int32 → Prop} {x lo hi : Int32} (a b : Nat) (ea : lo = nI a) (eb : hi = nI b) (hab : a ≤ b) (hb : b < 1000) (h : ∀ y : Nat, a ≤ y → y ≤ b → (¬ lo ≤ x → y = a) → (lo ≤ x → ¬ x ≤ hi → y = b) → (lo ≤ x → x ≤ hi → x = nI y) → post (nI y)) : wpX_clamp post x lo hi := by
  subst ea eb
  by_cases z : nI a ≤ x
  · by_cases w : x ≤ nI b
    · obtain ⟨y, hy, e⟩ := nI_of (x := x) (fun q => absurd (Int32.lt_of_le_of_lt z q) (nI_pos (by omega)))
      have h1 : a ≤ y := (nI_leI (by omega) hy).mp (by rw [← e]; exact z)
      have h2 : y ≤ b := (nI_leI hy (by omega)).mp (by rw [← e]; exact w)
      have q := h y h1 h2 (fun q => absurd z q) (fun _ q => absurd w q) (fun _ _ => e)
      rw [← e] at q
      exact br_t z (br_t w q)
    · exact br_t z (br_f w (h b hab (Nat.le_refl _) (fun q => absurd z q) (fun _ _ => rfl) (fun _ q => absurd q w)))
  · exact br_f z (h a (Nat.le_refl _) hab (fun _ => rfl) (fun q => absurd q z) (fun q => absurd q z))
variable {f_capacity f_historyCap f_length f_caret f_selStart f_bodyLength f_undoDepth f_merge f_itemCount f_baseLength f_basePos f_activeStop f_selected f_draftCount f_depth f_readAt : Int32} {a_text a_body a_history a_itemKind a_itemValue a_openAt a_closeAt a_base a_typedLength a_typedText a_draftKind a_draftValue a_draftOpenAt a_draftCloseAt a_enclosing a_trialLength : Nat → Int32}
theorem sn_xclr {post : SX → Prop} (h : ∀ L : Nat → Int32, (∀ s, s ≤ 9 → L s = -1) → post (f_capacity, f_historyCap, f_length, f_caret, f_selStart, f_bodyLength, f_undoDepth, f_merge, f_itemCount, f_baseLength, f_basePos, f_activeStop, f_selected, f_draftCount, f_depth, f_readAt, a_text, a_body, a_history, a_itemKind, a_itemValue, a_openAt, a_closeAt, a_base, L, a_typedText, a_draftKind, a_draftValue, a_draftOpenAt, a_draftCloseAt, a_enclosing, a_trialLength)) : wpX_clearTyped post (f_capacity, f_historyCap, f_length, f_caret, f_selStart, f_bodyLength, f_undoDepth, f_merge, f_itemCount, f_baseLength, f_basePos, f_activeStop, f_selected, f_draftCount, f_depth, f_readAt, a_text, a_body, a_history, a_itemKind, a_itemValue, a_openAt, a_closeAt, a_base, a_typedLength, a_typedText, a_draftKind, a_draftValue, a_draftOpenAt, a_draftCloseAt, a_enclosing, a_trialLength) := by
  have go : ∀ m j k (L : Nat → Int32), j + m = 10 → m < k → (∀ s, s < j → L s = -1) → wX_clearTyped_2 post f_capacity f_historyCap f_length f_caret f_selStart f_bodyLength f_undoDepth f_merge f_itemCount f_baseLength f_basePos f_activeStop f_selected f_draftCount f_depth f_readAt k (nI j) a_text a_body a_history a_itemKind a_itemValue a_openAt a_closeAt a_base L a_typedText a_draftKind a_draftValue a_draftOpenAt a_draftCloseAt a_enclosing a_trialLength := by
    intro m
    induction m with
    | zero =>
      intro j k L hi hk h1
      obtain ⟨k, rfl⟩ : ∃ q, k = q + 1 := ⟨k - 1, by omega⟩
      obtain rfl : j = 10 := by omega
      exact br_t (by decide) (h L (fun s hs => h1 s (by omega)))
    | succ m ih =>
      intro j k L hi hk h1
      obtain ⟨k, rfl⟩ : ∃ q, k = q + 1 := ⟨k - 1, by omega⟩
      refine br_f (nI_ge (a := j) (b := 10) (by omega) (by omega)) ⟨vp_in_nI (by omega) (by omega), fun y ey u eu => ?_⟩
      rw [nI_clamp (by omega)] at ey
      rw [nI_1] at eu
      subst ey eu
      refine ih (j + 1) k _ (by omega) (by omega) (fun s hs => ?_)
      by_cases e : s = j
      · rw [e, pk_us]
      · rw [pk_un e]; exact h1 s (by omega)
  exact ⟨11, go 10 0 11 _ (by omega) (by omega) (fun s hs => absurd hs (by omega))⟩
theorem sn_xdl {post : Int32 → Prop} {x1 x2 : Int32} (P : sn_PI c 0 st K V S oa ca sg dp pa) (hc : c ≤ 65) (XS : sn_XS c K V oa ca a_draftKind a_draftValue a_draftOpenAt a_draftCloseAt) (T : Nat → Int32) (f l : Nat) (e1 : x1 = nI f) (e2 : x2 = nI l) (hfl : f ≤ l) (hl : l ≤ c)
    (hp : post (nI (sn_sp K V S oa ca sn_L0 T f (l - f)).length)) : wpX_draftLiterals post (f_capacity, f_historyCap, f_length, f_caret, f_selStart, f_bodyLength, f_undoDepth, f_merge, f_itemCount, f_baseLength, f_basePos, f_activeStop, f_selected, f_draftCount, f_depth, f_readAt, a_text, a_body, a_history, a_itemKind, a_itemValue, a_openAt, a_closeAt, a_base, a_typedLength, a_typedText, a_draftKind, a_draftValue, a_draftOpenAt, a_draftCloseAt, a_enclosing, a_trialLength) x1 x2 := by
  subst e1 e2
  have go : ∀ m i n, i + m = l → f ≤ i → m < n → wX_draftLiterals_5 post (nI l) f_capacity f_historyCap f_length f_caret f_selStart f_bodyLength f_undoDepth f_merge f_itemCount f_baseLength f_basePos f_activeStop f_selected f_draftCount f_depth f_readAt a_text a_body a_history a_itemKind a_itemValue a_openAt a_closeAt a_base a_typedLength a_typedText a_draftKind a_draftValue a_draftOpenAt a_draftCloseAt a_enclosing a_trialLength n (nI (sn_sp K V S oa ca sn_L0 T f (i - f)).length) (nI i) := by
    intro m
    induction m with
    | zero =>
      intro i n hi hf hn
      obtain ⟨n, rfl⟩ : ∃ k, n = k + 1 := ⟨n - 1, by omega⟩
      obtain rfl : i = l := by omega
      exact br_t (nI_le (Nat.le_refl _) (by omega)) hp
    | succ m ih =>
      intro i n hi hf hn
      obtain ⟨n, rfl⟩ : ∃ k, n = k + 1 := ⟨n - 1, by omega⟩
      have hic : i < c := by omega
      have e1 : sn_sp K V S oa ca sn_L0 T f (i + 1 - f) = sn_sp K V S oa ca sn_L0 T f (i - f) ++ sn_out K V S oa ca sn_L0 T f i := by
        rw [show i + 1 - f = (i - f) + 1 by omega, sn_sp, show f + (i - f) = i by omega]
      have K7 : K i ≤ 7 := by rcases P.2.2.2.2.1 i hic with a | a | a | a | a <;> omega
      have w := ih (i + 1) n (by omega) (by omega) (by omega)
      refine br_f (nI_ge (by omega) (by omega)) ⟨vp_in_nI (by omega) (by omega), ?_⟩
      rw [nI_clamp (by omega), (XS.1 i hic).1]
      by_cases k0 : K i = 0
      · refine br_t (by rw [k0]; rfl) (fun a ea b eb => ?_)
        rw [e1, sn_out0 sn_hid0 k0, sn_len1] at w
        rw [ea, eb, nI_1, nI_1]; exact w
      · refine br_f (sn_ne k0 (by omega) (by omega)) (fun b eb => ?_)
        rw [e1, sn_out2 k0 (fun z => z.2 rfl), List.append_nil] at w
        rw [eb, nI_1]; exact w
  have w := go (l - f) f (l - f + 1) (by omega) (Nat.le_refl _) (by omega)
  rw [Nat.sub_self] at w
  exact ⟨_, w⟩
theorem sn_xudl {post : Int32 → Prop} (P : sn_PI c 0 st K V S oa ca sg dp pa) (hc : c ≤ 65) (XS : sn_XS c K V oa ca a_draftKind a_draftValue a_draftOpenAt a_draftCloseAt) (T : Nat → Int32)
    (hp : post (nI (sn_rr K V S oa ca sn_L0 T c).length)) : wpX_untypedDraftLength post (f_capacity, f_historyCap, f_length, f_caret, f_selStart, f_bodyLength, f_undoDepth, f_merge, f_itemCount, f_baseLength, f_basePos, f_activeStop, f_selected, nI c, f_depth, f_readAt, a_text, a_body, a_history, a_itemKind, a_itemValue, a_openAt, a_closeAt, a_base, a_typedLength, a_typedText, a_draftKind, a_draftValue, a_draftOpenAt, a_draftCloseAt, a_enclosing, a_trialLength) := by
  rw [sn_rrL] at hp
  unfold wpX_untypedDraftLength
  refine sn_xdl P hc XS T 0 c rfl rfl (Nat.zero_le _) (Nat.le_refl _) ?_
  have go : ∀ m i n, i + m = c → m < n → wX_untypedDraftLength_12 post f_capacity f_historyCap f_length f_caret f_selStart f_bodyLength f_undoDepth f_merge f_itemCount f_baseLength f_basePos f_activeStop f_selected (nI c) f_depth f_readAt a_text a_body a_history a_itemKind a_itemValue a_openAt a_closeAt a_base a_typedLength a_typedText a_draftKind a_draftValue a_draftOpenAt a_draftCloseAt a_enclosing a_trialLength n (nI ((sn_sp K V S oa ca sn_L0 T 0 c).length + sn_ms K V S oa ca sn_L0 T i)) (nI i) := by
    intro m
    induction m with
    | zero =>
      intro i n hi hn
      obtain ⟨n, rfl⟩ : ∃ k, n = k + 1 := ⟨n - 1, by omega⟩
      obtain rfl : i = c := by omega
      exact br_t (nI_le (Nat.le_refl _) (by omega)) hp
    | succ m ih =>
      intro i n hi hn
      obtain ⟨n, rfl⟩ : ∃ k, n = k + 1 := ⟨n - 1, by omega⟩
      have hic : i < c := by omega
      have ck : (nI i).toNatClampNeg = i := nI_clamp (by omega)
      have v65 : vp_in (nI i) 65 := vp_in_nI (by omega) (by omega)
      have K7 : K i ≤ 7 := by rcases P.2.2.2.2.1 i hic with a | a | a | a | a <;> omega
      have w := ih (i + 1) n (by omega) (by omega)
      rw [sn_ms] at w
      refine br_f (nI_ge (by omega) (by omega)) ⟨v65, ?_⟩
      rw [ck, (XS.1 i hic).1, (XS.1 i hic).2]
      by_cases k4 : K i < 4
      · rw [if_neg (by omega), Nat.add_zero] at w
        exact br_t (nI_lt (b := 4) k4 (by omega)) (br_t rfl (fun y ey => by rw [ey, nI_1]; exact w))
      · rw [if_pos (by omega)] at w
        have q : 1 ≤ S i ∧ S i ≤ 9 ∧ oa (S i) < ca (S i) ∧ ca (S i) < c := by
          have h0 := P.1
          rcases P.2.2.2.2.1 i hic with a | a | a | a | a
          · omega
          · omega
          · omega
          · omega
          · rcases sn_clo P (S i) with b | b | b <;> omega
        have h0 := P.1
        have vv : V i = nI (S i) := P.2.2.1 i hic (by omega)
        have cs : (nI (S i)).toNatClampNeg = S i := nI_clamp (by omega)
        have v10 : vp_in (nI (S i)) 10 := vp_in_nI (by omega) (by omega)
        refine br_f (nI_nlt (b := 4) (by omega) (by omega)) (br_f (by decide) ⟨v65, fun v ev => ?_⟩)
        rw [vv] at ev
        subst ev
        refine ⟨v10, v10, ?_⟩
        rw [cs]
        refine sn_xdl P hc XS T (oa (S i)) (ca (S i)) (by rw [XS.2.1 _ q.2.1, sn_o1 (by omega)]) (by rw [XS.2.2 _ q.2.1, sn_o1 (by omega)]) (by omega) (by omega) ?_
        intro a ea d ed
        rw [ea, ed, nI_1, nI_add, Nat.add_assoc]
        exact w
  exact ⟨_, go c 0 (c + 1) (by omega) (by omega)⟩
theorem sn_xadopt {post : SX → Prop} (hc : c ≤ 65) (XS : sn_XS c K V oa ca a_draftKind a_draftValue a_draftOpenAt a_draftCloseAt)
    (h : ∀ ik iv op cl, sn_XS c K V oa ca ik iv op cl → post (f_capacity, f_historyCap, f_length, f_caret, f_selStart, f_bodyLength, f_undoDepth, f_merge, nI c, f_baseLength, f_basePos, f_activeStop, f_selected, nI c, f_depth, f_readAt, a_text, a_body, a_history, ik, iv, op, cl, a_base, a_typedLength, a_typedText, a_draftKind, a_draftValue, a_draftOpenAt, a_draftCloseAt, a_enclosing, a_trialLength)) : wpX_adoptDraft post (f_capacity, f_historyCap, f_length, f_caret, f_selStart, f_bodyLength, f_undoDepth, f_merge, f_itemCount, f_baseLength, f_basePos, f_activeStop, f_selected, nI c, f_depth, f_readAt, a_text, a_body, a_history, a_itemKind, a_itemValue, a_openAt, a_closeAt, a_base, a_typedLength, a_typedText, a_draftKind, a_draftValue, a_draftOpenAt, a_draftCloseAt, a_enclosing, a_trialLength) := by
  unfold wpX_adoptDraft
  refine sn_xc_draftKind_itemKind 0 0 c rfl rfl rfl (by omega) (by omega) ?_
  refine sn_xc_draftValue_itemValue 0 0 c rfl rfl rfl (by omega) (by omega) ?_
  refine sn_xc_draftOpenAt_openAt 0 0 10 rfl rfl rfl (by omega) (by omega) ?_
  refine sn_xc_draftCloseAt_closeAt 0 0 10 rfl rfl rfl (by omega) (by omega) ?_
  refine h _ _ _ _ ⟨fun x hx => ?_, fun s hs => ?_, fun s hs => ?_⟩
  · have a := sn_cpI (a := a_draftKind) (b := a_itemKind) (p := 0) (q := 0) (n := c) (j := x) hx
    have b := sn_cpI (a := a_draftValue) (b := a_itemValue) (p := 0) (q := 0) (n := c) (j := x) hx
    rw [Nat.zero_add] at a b
    rw [a, b]; exact XS.1 x hx
  · have a := sn_cpI (a := a_draftOpenAt) (b := a_openAt) (p := 0) (q := 0) (n := 10) (j := s) (by omega)
    rw [Nat.zero_add] at a
    rw [a]; exact XS.2.1 s hs
  · have a := sn_cpI (a := a_draftCloseAt) (b := a_closeAt) (p := 0) (q := 0) (n := 10) (j := s) (by omega)
    rw [Nat.zero_add] at a
    rw [a]; exact XS.2.2 s hs
theorem sn_xkeep {post : SX → Prop} (l : Nat) (hl : l ≤ 64) (h : post (f_capacity, f_historyCap, nI l, f_caret, f_selStart, f_bodyLength, f_undoDepth, f_merge, f_itemCount, nI l, f_caret, f_activeStop, f_selected, f_draftCount, f_depth, f_readAt, a_text, a_body, a_history, a_itemKind, a_itemValue, a_openAt, a_closeAt, sn_cp a_text 0 a_base 0 l, a_typedLength, a_typedText, a_draftKind, a_draftValue, a_draftOpenAt, a_draftCloseAt, a_enclosing, a_trialLength)) : wpX_keepBase post (f_capacity, f_historyCap, nI l, f_caret, f_selStart, f_bodyLength, f_undoDepth, f_merge, f_itemCount, f_baseLength, f_basePos, f_activeStop, f_selected, f_draftCount, f_depth, f_readAt, a_text, a_body, a_history, a_itemKind, a_itemValue, a_openAt, a_closeAt, a_base, a_typedLength, a_typedText, a_draftKind, a_draftValue, a_draftOpenAt, a_draftCloseAt, a_enclosing, a_trialLength) := by
  unfold wpX_keepBase
  exact sn_xc_text_base 0 0 l rfl rfl rfl (by omega) (by omega) h
theorem sn_xfit {post : Int32 → SX → Prop} {x0 x1 : Int32} (P : sn_PI c 0 st K V S oa ca sg dp pa) (hc : c ≤ 65) (XS : sn_XS c K V oa ca a_itemKind a_itemValue a_openAt a_closeAt) (hL : sn_LL a_typedLength) (T : Nat → Int32) (a nl cap bl : Nat) (e0 : x0 = nI a) (e1 : x1 = nI nl) (ha : a ≤ 9) (hnl : nl ≤ 8) (hcap : cap ≤ 64) (hbl : bl ≤ 64)
    (h1 : bl + (sn_rr K V S oa ca (upd a_typedLength a (nI nl)) T c).length ≤ cap → ∀ tr, post 1 (nI cap, f_historyCap, f_length, f_caret, f_selStart, f_bodyLength, f_undoDepth, f_merge, nI c, nI bl, f_basePos, f_activeStop, f_selected, f_draftCount, f_depth, f_readAt, a_text, a_body, a_history, a_itemKind, a_itemValue, a_openAt, a_closeAt, a_base, a_typedLength, a_typedText, a_draftKind, a_draftValue, a_draftOpenAt, a_draftCloseAt, a_enclosing, tr))
    (h0 : cap < bl + (sn_rr K V S oa ca (upd a_typedLength a (nI nl)) T c).length → ∀ tr, post 0 (nI cap, f_historyCap, f_length, f_caret, f_selStart, f_bodyLength, f_undoDepth, f_merge, nI c, nI bl, f_basePos, f_activeStop, f_selected, f_draftCount, f_depth, f_readAt, a_text, a_body, a_history, a_itemKind, a_itemValue, a_openAt, a_closeAt, a_base, a_typedLength, a_typedText, a_draftKind, a_draftValue, a_draftOpenAt, a_draftCloseAt, a_enclosing, tr)) :
    wpX_fitsTyped post (nI cap, f_historyCap, f_length, f_caret, f_selStart, f_bodyLength, f_undoDepth, f_merge, nI c, nI bl, f_basePos, f_activeStop, f_selected, f_draftCount, f_depth, f_readAt, a_text, a_body, a_history, a_itemKind, a_itemValue, a_openAt, a_closeAt, a_base, a_typedLength, a_typedText, a_draftKind, a_draftValue, a_draftOpenAt, a_draftCloseAt, a_enclosing, a_trialLength) x0 x1 := by
  subst e0 e1
  unfold wpX_fitsTyped
  refine sn_xc_typedLength_trialLength 0 0 10 rfl rfl rfl (by omega) (by omega) ?_
  refine ⟨vp_in_nI (by omega) (by omega), fun y ey => ?_⟩
  rw [nI_clamp (by omega)] at ey
  subst ey
  have eq : ∀ s, s ≤ 9 → upd (sn_cp a_typedLength 0 a_trialLength 0 10) a (nI nl) s = upd a_typedLength a (nI nl) s := by
    intro s hs
    by_cases e : s = a
    · rw [e, pk_us, pk_us]
    · have q := sn_cpI (a := a_typedLength) (b := a_trialLength) (p := 0) (q := 0) (n := 10) (j := s) (by omega)
      rw [Nat.zero_add] at q
      rw [pk_un e, pk_un e, q]
  have LL2 : sn_LL (upd a_typedLength a (nI nl)) := by
    intro s hs
    by_cases e : s = a
    · rw [e, pk_us]; exact Or.inr ⟨nl, hnl, rfl⟩
    · rw [pk_un e]; exact hL s hs
  have LL3 : sn_LL (upd (sn_cp a_typedLength 0 a_trialLength 0 10) a (nI nl)) := by
    intro s hs
    rw [eq s hs]; exact LL2 s hs
  have ln := sn_rrLC (V := V) (T := T) (T' := T) (x := c) P eq (Nat.le_refl c)
  have lb := sn_rrB' (V := V) (T := T) (x := c) P hc (sn_LL8 LL2) (Nat.le_refl c)
  refine sn_xlb_trialLength P hc XS LL3 T c rfl (Nat.le_refl c) ?_
  rw [ln]
  show (_ → _) ∧ (_ → _)
  rw [nI_add]
  by_cases z : cap < bl + (sn_rr K V S oa ca (upd a_typedLength a (nI nl)) T c).length
  · exact br_t (nI_lt z (by omega)) (h0 z _)
  · exact br_f (nI_nlt (by omega) (by omega)) (h1 (by omega) _)
theorem sn_xtac {post : Int32 → SX → Prop} (x : Int32) (k l : Nat) (hk : k ≤ l) (hl : l < 64) (h : post 0 (f_capacity, f_historyCap, nI (l + 1), nI (k + 1), nI (k + 1), f_bodyLength, f_undoDepth, 1, f_itemCount, f_baseLength, f_basePos, f_activeStop, f_selected, f_draftCount, f_depth, f_readAt, upd (sn_sh a_text k l) k x, a_body, a_history, a_itemKind, a_itemValue, a_openAt, a_closeAt, a_base, a_typedLength, a_typedText, a_draftKind, a_draftValue, a_draftOpenAt, a_draftCloseAt, a_enclosing, a_trialLength)) :
    ∃ n, wX_typeAtCaret_30 post x f_capacity f_historyCap (nI l) (nI k) f_selStart f_bodyLength f_undoDepth f_merge f_itemCount f_baseLength f_basePos f_activeStop f_selected f_draftCount f_depth f_readAt n (nI l) a_text a_body a_history a_itemKind a_itemValue a_openAt a_closeAt a_base a_typedLength a_typedText a_draftKind a_draftValue a_draftOpenAt a_draftCloseAt a_enclosing a_trialLength := by
  have go : ∀ m i n, k + m = i → i ≤ l → m < n → wX_typeAtCaret_30 post x f_capacity f_historyCap (nI l) (nI k) f_selStart f_bodyLength f_undoDepth f_merge f_itemCount f_baseLength f_basePos f_activeStop f_selected f_draftCount f_depth f_readAt n (nI i) (sn_sh a_text i l) a_body a_history a_itemKind a_itemValue a_openAt a_closeAt a_base a_typedLength a_typedText a_draftKind a_draftValue a_draftOpenAt a_draftCloseAt a_enclosing a_trialLength := by
    intro m
    induction m with
    | zero =>
      intro i n hi hil hn
      obtain ⟨n, rfl⟩ : ∃ k, n = k + 1 := ⟨n - 1, by omega⟩
      obtain rfl : i = k := by omega
      refine br_t (nI_le (Nat.le_refl _) (by omega)) ⟨vp_in_nI (by omega) (by omega), fun y ey z ez => ?_⟩
      rw [nI_clamp (by omega)] at ey
      rw [nI_1] at ez
      subst ey ez
      show post _ _
      rw [nI_1]
      exact h
    | succ m ih =>
      intro i n hi hil hn
      obtain ⟨n, rfl⟩ : ∃ k, n = k + 1 := ⟨n - 1, by omega⟩
      obtain ⟨j, rfl⟩ : ∃ j, i = j + 1 := ⟨i - 1, by omega⟩
      refine br_f (nI_ge (by omega) (by omega)) ?_
      rw [nI_pred]
      refine ⟨vp_in_nI (by omega) (by omega), vp_in_nI (by omega) (by omega), fun y ey z ez => ?_⟩
      rw [nI_clamp (by omega), nI_clamp (by omega), sn_shS _ _ _ hil] at ey
      rw [ey, ez, pk_m1]
      exact ih j n (by omega) (by omega) (by omega)
  have w := go (l - k) l (l - k + 1) (by omega) (Nat.le_refl _) (by omega)
  rw [sn_sh0] at w
  exact ⟨_, w⟩
end SNY
