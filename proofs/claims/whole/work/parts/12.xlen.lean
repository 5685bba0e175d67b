section SNL
/-! X: lengths -/
def sn_LL (L : Nat → Int32) : Prop := ∀ s, s ≤ 9 → L s = -1 ∨ ∃ m : Nat, m ≤ 8 ∧ L s = nI m
theorem sn_LL8 {L : Nat → Int32} (h : sn_LL L) : ∀ s, s ≤ 9 → (L s).toNatClampNeg ≤ 8 := by
  intro s hs
  rcases h s hs with e | ⟨m, hm, e⟩
  · rw [e, sn_m1n]; omega
  · rw [e, nI_clamp (by omega)]; exact hm
theorem sn_ne {a b : Nat} {y : Int32} (h : a ≠ b) (ha : a < 2000) (hb : b < 2000) (hy : y = nI b := by rfl) : ¬ nI a = y := by
  rw [hy, nI_eq (by omega) (by omega)]; exact h
theorem sn_nle {a b : Nat} (h : a < b) (hb : b < 2000) : ¬ nI b ≤ nI a := nI_ge h (by omega)
variable {f_capacity f_historyCap f_length f_caret f_selStart f_bodyLength f_undoDepth f_merge f_itemCount f_baseLength f_basePos f_activeStop f_selected f_draftCount f_depth f_readAt : Int32} {a_text a_body a_history a_itemKind a_itemValue a_openAt a_closeAt a_base a_typedLength a_typedText a_draftKind a_draftValue a_draftOpenAt a_draftCloseAt a_enclosing a_trialLength : Nat → Int32}
variable {post : Int32 → Prop} {K S oa ca sg dp pa st : Nat → Nat} {V : Nat → Int32} {c : Nat}
theorem sn_xspl_typedLength (P : sn_PI c 0 st K V S oa ca sg dp pa) (hc : c ≤ 65) (XS : sn_XS c K V oa ca a_itemKind a_itemValue a_openAt a_closeAt) (hL : sn_LL a_typedLength) (T : Nat → Int32) {f l : Nat} (hl : l ≤ c) (hp : post (nI (sn_sp K V S oa ca a_typedLength T f (l - f)).length)) :
    ∀ m i h n, i + m = l → f ≤ i → m < n → sn_HU oa ca a_typedLength f i h → h ≤ 1000 → wX_spanLength__typedLength_9 post (nI l) f_capacity f_historyCap f_length f_caret f_selStart f_bodyLength f_undoDepth f_merge f_itemCount f_baseLength f_basePos f_activeStop f_selected f_draftCount f_depth f_readAt a_text a_body a_history a_itemKind a_itemValue a_openAt a_closeAt a_base a_typedLength a_typedText a_draftKind a_draftValue a_draftOpenAt a_draftCloseAt a_enclosing a_trialLength n (nI (sn_sp K V S oa ca a_typedLength T f (i - f)).length) (nI h) (nI i) := by
  intro m
  induction m with
  | zero =>
    intro i h n hi hf hn H hh
    obtain ⟨n, rfl⟩ : ∃ k, n = k + 1 := ⟨n - 1, by omega⟩
    obtain rfl : i = l := by omega
    exact br_t (nI_le (Nat.le_refl _) (by omega)) hp
  | succ m ih =>
    intro i h n hi hf hn H hh
    obtain ⟨n, rfl⟩ : ∃ k, n = k + 1 := ⟨n - 1, by omega⟩
    have hic : i < c := by omega
    have e1 : sn_sp K V S oa ca a_typedLength T f (i + 1 - f) = sn_sp K V S oa ca a_typedLength T f (i - f) ++ sn_out K V S oa ca a_typedLength T f i := by
      rw [show i + 1 - f = (i - f) + 1 by omega, sn_sp, show f + (i - f) = i by omega]
    have ck : (nI i).toNatClampNeg = i := nI_clamp (by omega)
    have v65 : vp_in (nI i) 65 := vp_in_nI (by omega) (by omega)
    have K7 : K i ≤ 7 := by rcases P.2.2.2.2.1 i hic with a | a | a | a | a <;> omega
    have skip : sn_out K V S oa ca a_typedLength T f i = [] → (i < h ∨ ¬ (K i = 1 ∧ a_typedLength (S i) ≠ -1)) → ∀ y : Int32, y = nI i + 1 → wX_spanLength__typedLength_9 post (nI l) f_capacity f_historyCap f_length f_caret f_selStart f_bodyLength f_undoDepth f_merge f_itemCount f_baseLength f_basePos f_activeStop f_selected f_draftCount f_depth f_readAt a_text a_body a_history a_itemKind a_itemValue a_openAt a_closeAt a_base a_typedLength a_typedText a_draftKind a_draftValue a_draftOpenAt a_draftCloseAt a_enclosing a_trialLength n (nI (sn_sp K V S oa ca a_typedLength T f (i - f)).length) (nI h) y := by
      intro eo z y ey
      have w := ih (i + 1) h n (by omega) (by omega) (by omega) (sn_huA P.2.2.2.1 P.2.2.2.2.2.2.1 (by omega) H z) hh
      rw [e1, eo, List.append_nil] at w
      rw [ey, nI_1]; exact w
    refine br_f (nI_ge (by omega) (by omega)) ?_
    by_cases hhi : h ≤ i
    · have nh : ¬ sn_hid oa ca a_typedLength f i := fun z => by
        have := (sn_huH H).mpr z
        omega
      refine br_t (nI_le hhi (by omega)) ⟨v65, fun v ev => ⟨v65, ?_⟩⟩
      rw [ck, (XS.1 i hic).2] at ev
      rw [ck, (XS.1 i hic).1]
      by_cases k0 : K i = 0
      · refine br_t (by rw [k0]; rfl) (fun a ea b eb => ?_)
        have w := ih (i + 1) h n (by omega) (by omega) (by omega) (sn_huA P.2.2.2.1 P.2.2.2.2.2.2.1 (by omega) H (Or.inr (by omega))) hh
        rw [e1, sn_out0 nh k0, sn_len1] at w
        rw [ea, eb, nI_1, nI_1]; exact w
      · refine br_f (sn_ne k0 (by omega) (by omega)) ⟨v65, ?_⟩
        by_cases k1 : K i = 1
        · refine br_t (by rw [k1]; rfl) ?_
          have q : 1 ≤ S i ∧ S i ≤ 9 ∧ ca (S i) < c := by
            have h0 := P.1
            rcases P.2.2.2.2.1 i hic with a | a | a | a | a
            · omega
            · rcases sn_clo P (S i) with b | b | b <;> omega
            · omega
            · omega
            · omega
          have vv : v = nI (S i) := by rw [ev]; exact P.2.2.1 i hic k0
          subst vv
          have cs : (nI (S i)).toNatClampNeg = S i := nI_clamp (by omega)
          have v10 : vp_in (nI (S i)) 10 := vp_in_nI (by omega) (by omega)
          refine ⟨v10, ?_⟩
          rw [cs]
          by_cases l1 : a_typedLength (S i) = -1
          · exact br_t l1 (skip (sn_out2 k0 (fun z => z.2 l1)) (Or.inr (fun z => z.2 l1)))
          · refine br_f l1 ⟨v10, fun a ea => ⟨v10, fun b eb d ed => ?_⟩⟩
            rcases hL (S i) q.2.1 with z | ⟨mm, hm, em⟩
            · exact absurd z l1
            · have h0 := P.1
              have cl : a_closeAt (S i) = nI (ca (S i)) := by rw [XS.2.2 (S i) q.2.1, sn_o1 (by omega)]
              have w := ih (i + 1) (ca (S i)) n (by omega) (by omega) (by omega) (sn_huB P.2.2.2.1 P.2.2.2.2.1 hic h0 hf H hhi k1 l1) (by omega)
              rw [e1, sn_out1 nh k1 l1, List.length_append, sn_tyL, em, nI_clamp (by omega)] at w
              rw [ea, eb, ed, em, cl, nI_1, nI_add]; exact w
        · exact br_f (sn_ne k1 (by omega) (by omega)) (skip (sn_out2 k0 (fun z => k1 z.1)) (Or.inr (fun z => k1 z.1)))
    · exact br_f (nI_ge (by omega) (by omega)) (skip (sn_outH ((sn_huH H).mp (by omega))) (Or.inl (by omega)))
theorem sn_xsp_typedLength {x1 x2 : Int32} (P : sn_PI c 0 st K V S oa ca sg dp pa) (hc : c ≤ 65) (XS : sn_XS c K V oa ca a_itemKind a_itemValue a_openAt a_closeAt) (hL : sn_LL a_typedLength) (T : Nat → Int32) (f l : Nat) (e1 : x1 = nI f) (e2 : x2 = nI l) (hfl : f ≤ l) (hl : l ≤ c)
    (hp : post (nI (sn_sp K V S oa ca a_typedLength T f (l - f)).length)) : wpX_spanLength__typedLength post (f_capacity, f_historyCap, f_length, f_caret, f_selStart, f_bodyLength, f_undoDepth, f_merge, f_itemCount, f_baseLength, f_basePos, f_activeStop, f_selected, f_draftCount, f_depth, f_readAt, a_text, a_body, a_history, a_itemKind, a_itemValue, a_openAt, a_closeAt, a_base, a_typedLength, a_typedText, a_draftKind, a_draftValue, a_draftOpenAt, a_draftCloseAt, a_enclosing, a_trialLength) x1 x2 := by
  subst e1 e2
  have w := sn_xspl_typedLength (post := post) (f := f) (l := l) (f_capacity := f_capacity) (f_historyCap := f_historyCap) (f_length := f_length) (f_caret := f_caret) (f_selStart := f_selStart) (f_bodyLength := f_bodyLength) (f_undoDepth := f_undoDepth) (f_merge := f_merge) (f_itemCount := f_itemCount) (f_baseLength := f_baseLength) (f_basePos := f_basePos) (f_activeStop := f_activeStop) (f_selected := f_selected) (f_draftCount := f_draftCount) (f_depth := f_depth) (f_readAt := f_readAt) (a_text := a_text) (a_body := a_body) (a_history := a_history) (a_itemKind := a_itemKind) (a_itemValue := a_itemValue) (a_openAt := a_openAt) (a_closeAt := a_closeAt) (a_base := a_base) (a_typedLength := a_typedLength) (a_typedText := a_typedText) (a_draftKind := a_draftKind) (a_draftValue := a_draftValue) (a_draftOpenAt := a_draftOpenAt) (a_draftCloseAt := a_draftCloseAt) (a_enclosing := a_enclosing) (a_trialLength := a_trialLength) P hc XS hL T hl hp (l - f) f f (l - f + 1) (by omega) (Nat.le_refl _) (by omega) sn_hu0 (by omega)
  rw [Nat.sub_self] at w
  exact ⟨_, w⟩
theorem sn_xlbl_typedLength (P : sn_PI c 0 st K V S oa ca sg dp pa) (hc : c ≤ 65) (XS : sn_XS c K V oa ca a_itemKind a_itemValue a_openAt a_closeAt) (hL : sn_LL a_typedLength) (T : Nat → Int32) {x : Nat} (hx : x ≤ c) {b : Nat} (hp : post (nI (b + sn_ms K V S oa ca a_typedLength T x))) :
    ∀ m i n, i + m = x → m < n → wX_lengthBefore__typedLength_11 post (nI x) f_capacity f_historyCap f_length f_caret f_selStart f_bodyLength f_undoDepth f_merge f_itemCount f_baseLength f_basePos f_activeStop f_selected f_draftCount f_depth f_readAt a_text a_body a_history a_itemKind a_itemValue a_openAt a_closeAt a_base a_typedLength a_typedText a_draftKind a_draftValue a_draftOpenAt a_draftCloseAt a_enclosing a_trialLength n (nI (b + sn_ms K V S oa ca a_typedLength T i)) (nI i) := by
  intro m
  induction m with
  | zero =>
    intro i n hi hn
    obtain ⟨n, rfl⟩ : ∃ k, n = k + 1 := ⟨n - 1, by omega⟩
    obtain rfl : i = x := by omega
    exact br_t (nI_le (Nat.le_refl _) (by omega)) hp
  | succ m ih =>
    intro i n hi hn
    obtain ⟨n, rfl⟩ : ∃ k, n = k + 1 := ⟨n - 1, by omega⟩
    have hic : i < c := by omega
    have ck : (nI i).toNatClampNeg = i := nI_clamp (by omega)
    have v65 : vp_in (nI i) 65 := vp_in_nI (by omega) (by omega)
    have K7 : K i ≤ 7 := by rcases P.2.2.2.2.1 i hic with a | a | a | a | a <;> omega
    have w := ih (i + 1) n (by omega) (by omega)
    rw [sn_ms] at w
    refine br_f (nI_ge (by omega) (by omega)) ⟨v65, ?_⟩
    rw [ck, (XS.1 i hic).1, (XS.1 i hic).2]
    by_cases k4 : K i < 4
    · rw [if_neg (by omega), Nat.add_zero] at w
      exact br_t (nI_lt (b := 4) k4 (by omega)) (br_t rfl (fun y ey => by rw [ey, nI_1]; exact w))
    · rw [if_pos (by omega)] at w
      have q : 1 ≤ S i ∧ S i ≤ 9 ∧ oa (S i) < ca (S i) ∧ ca (S i) < c := by
        have h0 := P.1
        rcases P.2.2.2.2.1 i hic with a | a | a | a | a
        · omega
        · omega
        · omega
        · omega
        · rcases sn_clo P (S i) with b | b | b <;> omega
      have h0 := P.1
      have vv : V i = nI (S i) := P.2.2.1 i hic (by omega)
      have cs : (nI (S i)).toNatClampNeg = S i := nI_clamp (by omega)
      have v10 : vp_in (nI (S i)) 10 := vp_in_nI (by omega) (by omega)
      refine br_f (nI_nlt (b := 4) (by omega) (by omega)) (br_f (by decide) ⟨v65, fun v ev => ?_⟩)
      rw [vv] at ev
      subst ev
      refine ⟨v10, v10, ?_⟩
      rw [cs]
      refine sn_xsp_typedLength P hc XS hL T (oa (S i)) (ca (S i)) (by rw [XS.2.1 _ q.2.1, sn_o1 (by omega)]) (by rw [XS.2.2 _ q.2.1, sn_o1 (by omega)]) (by omega) (by omega) ?_
      intro a ea d ed
      rw [ea, ed, nI_1, nI_add, Nat.add_assoc]
      exact w
theorem sn_xlb_typedLength {x0 : Int32} (P : sn_PI c 0 st K V S oa ca sg dp pa) (hc : c ≤ 65) (XS : sn_XS c K V oa ca a_itemKind a_itemValue a_openAt a_closeAt) (hL : sn_LL a_typedLength) (T : Nat → Int32) (x : Nat) (e0 : x0 = nI x) (hx : x ≤ c)
    (hp : post (nI (sn_rr K V S oa ca a_typedLength T x).length)) : wpX_lengthBefore__typedLength post (f_capacity, f_historyCap, f_length, f_caret, f_selStart, f_bodyLength, f_undoDepth, f_merge, f_itemCount, f_baseLength, f_basePos, f_activeStop, f_selected, f_draftCount, f_depth, f_readAt, a_text, a_body, a_history, a_itemKind, a_itemValue, a_openAt, a_closeAt, a_base, a_typedLength, a_typedText, a_draftKind, a_draftValue, a_draftOpenAt, a_draftCloseAt, a_enclosing, a_trialLength) x0 := by
  subst e0
  refine sn_xsp_typedLength P hc XS hL T 0 x rfl rfl (Nat.zero_le _) hx ?_
  rw [sn_rrL] at hp
  have w := sn_xlbl_typedLength (post := post) (x := x) (f_capacity := f_capacity) (f_historyCap := f_historyCap) (f_length := f_length) (f_caret := f_caret) (f_selStart := f_selStart) (f_bodyLength := f_bodyLength) (f_undoDepth := f_undoDepth) (f_merge := f_merge) (f_itemCount := f_itemCount) (f_baseLength := f_baseLength) (f_basePos := f_basePos) (f_activeStop := f_activeStop) (f_selected := f_selected) (f_draftCount := f_draftCount) (f_depth := f_depth) (f_readAt := f_readAt) (a_text := a_text) (a_body := a_body) (a_history := a_history) (a_itemKind := a_itemKind) (a_itemValue := a_itemValue) (a_openAt := a_openAt) (a_closeAt := a_closeAt) (a_base := a_base) (a_typedLength := a_typedLength) (a_typedText := a_typedText) (a_draftKind := a_draftKind) (a_draftValue := a_draftValue) (a_draftOpenAt := a_draftOpenAt) (a_draftCloseAt := a_draftCloseAt) (a_enclosing := a_enclosing) (a_trialLength := a_trialLength) P hc XS hL T hx hp x 0 (x + 1) (by omega) (by omega)
  exact ⟨_, w⟩
theorem sn_xspl_trialLength (P : sn_PI c 0 st K V S oa ca sg dp pa) (hc : c ≤ 65) (XS : sn_XS c K V oa ca a_itemKind a_itemValue a_openAt a_closeAt) (hL : sn_LL a_trialLength) (T : Nat → Int32) {f l : Nat} (hl : l ≤ c) (hp : post (nI (sn_sp K V S oa ca a_trialLength T f (l - f)).length)) :
    ∀ m i h n, i + m = l → f ≤ i → m < n → sn_HU oa ca a_trialLength f i h → h ≤ 1000 → wX_spanLength__trialLength_9 post (nI l) f_capacity f_historyCap f_length f_caret f_selStart f_bodyLength f_undoDepth f_merge f_itemCount f_baseLength f_basePos f_activeStop f_selected f_draftCount f_depth f_readAt a_text a_body a_history a_itemKind a_itemValue a_openAt a_closeAt a_base a_typedLength a_typedText a_draftKind a_draftValue a_draftOpenAt a_draftCloseAt a_enclosing a_trialLength n (nI (sn_sp K V S oa ca a_trialLength T f (i - f)).length) (nI h) (nI i) := by
  intro m
  induction m with
  | zero =>
    intro i h n hi hf hn H hh
    obtain ⟨n, rfl⟩ : ∃ k, n = k + 1 := ⟨n - 1, by omega⟩
    obtain rfl : i = l := by omega
    exact br_t (nI_le (Nat.le_refl _) (by omega)) hp
  | succ m ih =>
    intro i h n hi hf hn H hh
    obtain ⟨n, rfl⟩ : ∃ k, n = k + 1 := ⟨n - 1, by omega⟩
    have hic : i < c := by omega
    have e1 : sn_sp K V S oa ca a_trialLength T f (i + 1 - f) = sn_sp K V S oa ca a_trialLength T f (i - f) ++ sn_out K V S oa ca a_trialLength T f i := by
      rw [show i + 1 - f = (i - f) + 1 by omega, sn_sp, show f + (i - f) = i by omega]
    have ck : (nI i).toNatClampNeg = i := nI_clamp (by omega)
    have v65 : vp_in (nI i) 65 := vp_in_nI (by omega) (by omega)
    have K7 : K i ≤ 7 := by rcases P.2.2.2.2.1 i hic with a | a | a | a | a <;> omega
    have skip : sn_out K V S oa ca a_trialLength T f i = [] → (i < h ∨ ¬ (K i = 1 ∧ a_trialLength (S i) ≠ -1)) → ∀ y : Int32, y = nI i + 1 → wX_spanLength__trialLength_9 post (nI l) f_capacity f_historyCap f_length f_caret f_selStart f_bodyLength f_undoDepth f_merge f_itemCount f_baseLength f_basePos f_activeStop f_selected f_draftCount f_depth f_readAt a_text a_body a_history a_itemKind a_itemValue a_openAt a_closeAt a_base a_typedLength a_typedText a_draftKind a_draftValue a_draftOpenAt a_draftCloseAt a_enclosing a_trialLength n (nI (sn_sp K V S oa ca a_trialLength T f (i - f)).length) (nI h) y := by
      intro eo z y ey
      have w := ih (i + 1) h n (by omega) (by omega) (by omega) (sn_huA P.2.2.2.1 P.2.2.2.2.2.2.1 (by omega) H z) hh
      rw [e1, eo, List.append_nil] at w
      rw [ey, nI_1]; exact w
    refine br_f (nI_ge (by omega) (by omega)) ?_
    by_cases hhi : h ≤ i
    · have nh : ¬ sn_hid oa ca a_trialLength f i := fun z => by
        have := (sn_huH H).mpr z
        omega
      refine br_t (nI_le hhi (by omega)) ⟨v65, fun v ev => ⟨v65, ?_⟩⟩
      rw [ck, (XS.1 i hic).2] at ev
      rw [ck, (XS.1 i hic).1]
      by_cases k0 : K i = 0
      · refine br_t (by rw [k0]; rfl) (fun a ea b eb => ?_)
        have w := ih (i + 1) h n (by omega) (by omega) (by omega) (sn_huA P.2.2.2.1 P.2.2.2.2.2.2.1 (by omega) H (Or.inr (by omega))) hh
        rw [e1, sn_out0 nh k0, sn_len1] at w
        rw [ea, eb, nI_1, nI_1]; exact w
      · refine br_f (sn_ne k0 (by omega) (by omega)) ⟨v65, ?_⟩
        by_cases k1 : K i = 1
        · refine br_t (by rw [k1]; rfl) ?_
          have q : 1 ≤ S i ∧ S i ≤ 9 ∧ ca (S i) < c := by
            have h0 := P.1
            rcases P.2.2.2.2.1 i hic with a | a | a | a | a
            · omega
            · rcases sn_clo P (S i) with b | b | b <;> omega
            · omega
            · omega
            · omega
          have vv : v = nI (S i) := by rw [ev]; exact P.2.2.1 i hic k0
          subst vv
          have cs : (nI (S i)).toNatClampNeg = S i := nI_clamp (by omega)
          have v10 : vp_in (nI (S i)) 10 := vp_in_nI (by omega) (by omega)
          refine ⟨v10, ?_⟩
          rw [cs]
          by_cases l1 : a_trialLength (S i) = -1
          · exact br_t l1 (skip (sn_out2 k0 (fun z => z.2 l1)) (Or.inr (fun z => z.2 l1)))
          · refine br_f l1 ⟨v10, fun a ea => ⟨v10, fun b eb d ed => ?_⟩⟩
            rcases hL (S i) q.2.1 with z | ⟨mm, hm, em⟩
            · exact absurd z l1
            · have h0 := P.1
              have cl : a_closeAt (S i) = nI (ca (S i)) := by rw [XS.2.2 (S i) q.2.1, sn_o1 (by omega)]
              have w := ih (i + 1) (ca (S i)) n (by omega) (by omega) (by omega) (sn_huB P.2.2.2.1 P.2.2.2.2.1 hic h0 hf H hhi k1 l1) (by omega)
              rw [e1, sn_out1 nh k1 l1, List.length_append, sn_tyL, em, nI_clamp (by omega)] at w
              rw [ea, eb, ed, em, cl, nI_1, nI_add]; exact w
        · exact br_f (sn_ne k1 (by omega) (by omega)) (skip (sn_out2 k0 (fun z => k1 z.1)) (Or.inr (fun z => k1 z.1)))
    · exact br_f (nI_ge (by omega) (by omega)) (skip (sn_outH ((sn_huH H).mp (by omega))) (Or.inl (by omega)))
theorem sn_xsp_trialLength {x1 x2 : Int32} (P : sn_PI c 0 st K V S oa ca sg dp pa) (hc : c ≤ 65) (XS : sn_XS c K V oa ca a_itemKind a_itemValue a_openAt a_closeAt) (hL : sn_LL a_trialLength) (T : Nat → Int32) (f l : Nat) (e1 : x1 = nI f) (e2 : x2 = nI l) (hfl : f ≤ l) (hl : l ≤ c)
    (hp : post (nI (sn_sp K V S oa ca a_trialLength T f (l - f)).length)) : wpX_spanLength__trialLength post (f_capacity, f_historyCap, f_length, f_caret, f_selStart, f_bodyLength, f_undoDepth, f_merge, f_itemCount, f_baseLength, f_basePos, f_activeStop, f_selected, f_draftCount, f_depth, f_readAt, a_text, a_body, a_history, a_itemKind, a_itemValue, a_openAt, a_closeAt, a_base, a_typedLength, a_typedText, a_draftKind, a_draftValue, a_draftOpenAt, a_draftCloseAt, a_enclosing, a_trialLength) x1 x2 := by
  subst e1 e2
  have w := sn_xspl_trialLength (post := post) (f := f) (l := l) (f_capacity := f_capacity) (f_historyCap := f_historyCap) (f_length := f_length) (f_caret := f_caret) (f_selStart := f_selStart) (f_bodyLength := f_bodyLength) (f_undoDepth := f_undoDepth) (f_merge := f_merge) (f_itemCount := f_itemCount) (f_baseLength := f_baseLength) (f_basePos := f_basePos) (f_activeStop := f_activeStop) (f_selected := f_selected) (f_draftCount := f_draftCount) (f_depth := f_depth) (f_readAt := f_readAt) (a_text := a_text) (a_body := a_body) (a_history := a_history) (a_itemKind := a_itemKind) (a_itemValue := a_itemValue) (a_openAt := a_openAt) (a_closeAt := a_closeAt) (a_base := a_base) (a_typedLength := a_typedLength) (a_typedText := a_typedText) (a_draftKind := a_draftKind) (a_draftValue := a_draftValue) (a_draftOpenAt := a_draftOpenAt) (a_draftCloseAt := a_draftCloseAt) (a_enclosing := a_enclosing) (a_trialLength := a_trialLength) P hc XS hL T hl hp (l - f) f f (l - f + 1) (by omega) (Nat.le_refl _) (by omega) sn_hu0 (by omega)
  rw [Nat.sub_self] at w
  exact ⟨_, w⟩
theorem sn_xlbl_trialLength (P : sn_PI c 0 st K V S oa ca sg dp pa) (hc : c ≤ 65) (XS : sn_XS c K V oa ca a_itemKind a_itemValue a_openAt a_closeAt) (hL : sn_LL a_trialLength) (T : Nat → Int32) {x : Nat} (hx : x ≤ c) {b : Nat} (hp : post (nI (b + sn_ms K V S oa ca a_trialLength T x))) :
    ∀ m i n, i + m = x → m < n → wX_lengthBefore__trialLength_11 post (nI x) f_capacity f_historyCap f_length f_caret f_selStart f_bodyLength f_undoDepth f_merge f_itemCount f_baseLength f_basePos f_activeStop f_selected f_draftCount f_depth f_readAt a_text a_body a_history a_itemKind a_itemValue a_openAt a_closeAt a_base a_typedLength a_typedText a_draftKind a_draftValue a_draftOpenAt a_draftCloseAt a_enclosing a_trialLength n (nI (b + sn_ms K V S oa ca a_trialLength T i)) (nI i) := by
  intro m
  induction m with
  | zero =>
    intro i n hi hn
    obtain ⟨n, rfl⟩ : ∃ k, n = k + 1 := ⟨n - 1, by omega⟩
    obtain rfl : i = x := by omega
    exact br_t (nI_le (Nat.le_refl _) (by omega)) hp
  | succ m ih =>
    intro i n hi hn
    obtain ⟨n, rfl⟩ : ∃ k, n = k + 1 := ⟨n - 1, by omega⟩
    have hic : i < c := by omega
    have ck : (nI i).toNatClampNeg = i := nI_clamp (by omega)
    have v65 : vp_in (nI i) 65 := vp_in_nI (by omega) (by omega)
    have K7 : K i ≤ 7 := by rcases P.2.2.2.2.1 i hic with a | a | a | a | a <;> omega
    have w := ih (i + 1) n (by omega) (by omega)
    rw [sn_ms] at w
    refine br_f (nI_ge (by omega) (by omega)) ⟨v65, ?_⟩
    rw [ck, (XS.1 i hic).1, (XS.1 i hic).2]
    by_cases k4 : K i < 4
    · rw [if_neg (by omega), Nat.add_zero] at w
      exact br_t (nI_lt (b := 4) k4 (by omega)) (br_t rfl (fun y ey => by rw [ey, nI_1]; exact w))
    · rw [if_pos (by omega)] at w
      have q : 1 ≤ S i ∧ S i ≤ 9 ∧ oa (S i) < ca (S i) ∧ ca (S i) < c := by
        have h0 := P.1
        rcases P.2.2.2.2.1 i hic with a | a | a | a | a
        · omega
        · omega
        · omega
        · omega
        · rcases sn_clo P (S i) with b | b | b <;> omega
      have h0 := P.1
      have vv : V i = nI (S i) := P.2.2.1 i hic (by omega)
      have cs : (nI (S i)).toNatClampNeg = S i := nI_clamp (by omega)
      have v10 : vp_in (nI (S i)) 10 := vp_in_nI (by omega) (by omega)
      refine br_f (nI_nlt (b := 4) (by omega) (by omega)) (br_f (by decide) ⟨v65, fun v ev => ?_⟩)
      rw [vv] at ev
      subst ev
      refine ⟨v10, v10, ?_⟩
      rw [cs]
      refine sn_xsp_trialLength P hc XS hL T (oa (S i)) (ca (S i)) (by rw [XS.2.1 _ q.2.1, sn_o1 (by omega)]) (by rw [XS.2.2 _ q.2.1, sn_o1 (by omega)]) (by omega) (by omega) ?_
      intro a ea d ed
      rw [ea, ed, nI_1, nI_add, Nat.add_assoc]
      exact w
theorem sn_xlb_trialLength {x0 : Int32} (P : sn_PI c 0 st K V S oa ca sg dp pa) (hc : c ≤ 65) (XS : sn_XS c K V oa ca a_itemKind a_itemValue a_openAt a_closeAt) (hL : sn_LL a_trialLength) (T : Nat → Int32) (x : Nat) (e0 : x0 = nI x) (hx : x ≤ c)
    (hp : post (nI (sn_rr K V S oa ca a_trialLength T x).length)) : wpX_lengthBefore__trialLength post (f_capacity, f_historyCap, f_length, f_caret, f_selStart, f_bodyLength, f_undoDepth, f_merge, f_itemCount, f_baseLength, f_basePos, f_activeStop, f_selected, f_draftCount, f_depth, f_readAt, a_text, a_body, a_history, a_itemKind, a_itemValue, a_openAt, a_closeAt, a_base, a_typedLength, a_typedText, a_draftKind, a_draftValue, a_draftOpenAt, a_draftCloseAt, a_enclosing, a_trialLength) x0 := by
  subst e0
  refine sn_xsp_trialLength P hc XS hL T 0 x rfl rfl (Nat.zero_le _) hx ?_
  rw [sn_rrL] at hp
  have w := sn_xlbl_trialLength (post := post) (x := x) (f_capacity := f_capacity) (f_historyCap := f_historyCap) (f_length := f_length) (f_caret := f_caret) (f_selStart := f_selStart) (f_bodyLength := f_bodyLength) (f_undoDepth := f_undoDepth) (f_merge := f_merge) (f_itemCount := f_itemCount) (f_baseLength := f_baseLength) (f_basePos := f_basePos) (f_activeStop := f_activeStop) (f_selected := f_selected) (f_draftCount := f_draftCount) (f_depth := f_depth) (f_readAt := f_readAt) (a_text := a_text) (a_body := a_body) (a_history := a_history) (a_itemKind := a_itemKind) (a_itemValue := a_itemValue) (a_openAt := a_openAt) (a_closeAt := a_closeAt) (a_base := a_base) (a_typedLength := a_typedLength) (a_typedText := a_typedText) (a_draftKind := a_draftKind) (a_draftValue := a_draftValue) (a_draftOpenAt := a_draftOpenAt) (a_draftCloseAt := a_draftCloseAt) (a_enclosing := a_enclosing) (a_trialLength := a_trialLength) P hc XS hL T hx hp x 0 (x + 1) (by omega) (by omega)
  exact ⟨_, w⟩
theorem sn_xpos {x0 : Int32} (P : sn_PI c 0 st K V S oa ca sg dp pa) (hc : c ≤ 65) (XS : sn_XS c K V oa ca a_itemKind a_itemValue a_openAt a_closeAt) (hL : sn_LL a_typedLength) (T : Nat → Int32) (bp x : Nat) (e0 : x0 = nI x) (hx : x ≤ c)
    (hp : post (nI (bp + (sn_rr K V S oa ca a_typedLength T x).length))) : wpX_positionOf post (f_capacity, f_historyCap, f_length, f_caret, f_selStart, f_bodyLength, f_undoDepth, f_merge, f_itemCount, f_baseLength, nI bp, f_activeStop, f_selected, f_draftCount, f_depth, f_readAt, a_text, a_body, a_history, a_itemKind, a_itemValue, a_openAt, a_closeAt, a_base, a_typedLength, a_typedText, a_draftKind, a_draftValue, a_draftOpenAt, a_draftCloseAt, a_enclosing, a_trialLength) x0 := by
  refine sn_xlb_typedLength P hc XS hL T x e0 hx ?_
  rw [nI_add]; exact hp
end SNL
