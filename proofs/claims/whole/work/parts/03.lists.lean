section SNC
/-! lists written into arrays -/
def sn_ls (f : Nat → Int32) : Nat → List Int32
  | 0 => []
  | n + 1 => sn_ls f n ++ [f n]
theorem sn_lsL {f : Nat → Int32} {n : Nat} : (sn_ls f n).length = n := by
  induction n with
  | zero => rfl
  | succ n ih => rw [sn_ls, List.length_append, ih]; rfl
theorem sn_lsG {f : Nat → Int32} {n k : Nat} (h : k < n) : (sn_ls f n)[k]? = some (f k) := by
  induction n with
  | zero => omega
  | succ n ih =>
    rw [sn_ls]
    by_cases z : k < n
    · rw [List.getElem?_append_left (by rw [sn_lsL]; exact z)]; exact ih z
    · have e : k = n := by omega
      rw [List.getElem?_append_right (by rw [sn_lsL]; omega), sn_lsL, e, Nat.sub_self]; rfl
theorem sn_lsC {f g : Nat → Int32} {n : Nat} (h : ∀ k, k < n → f k = g k) : sn_ls f n = sn_ls g n := by
  induction n with
  | zero => rfl
  | succ n ih => rw [sn_ls, sn_ls, ih (fun k hk => h k (by omega)), h n (by omega)]
def sn_at (l : List Int32) (k : Nat) : Int32 := (l[k]?).getD 0
theorem sn_lsA {f : Nat → Int32} {n k : Nat} (h : k < n) : sn_at (sn_ls f n) k = f k := by
  unfold sn_at; rw [sn_lsG h]; rfl
theorem sn_lsE (l : List Int32) : sn_ls (sn_at l) l.length = l := by
  apply List.ext_getElem?
  intro i
  by_cases h : i < l.length
  · rw [sn_lsG h]; simp [sn_at, h]
  · rw [List.getElem?_eq_none (by rw [sn_lsL]; omega), List.getElem?_eq_none (by omega)]
theorem sn_lsD (f : Nat → Int32) (n : Nat) : ∀ m, sn_ls f n ++ sn_ls (fun k => f (n + k)) m = sn_ls f (n + m) := by
  intro m
  induction m with
  | zero => exact List.append_nil _
  | succ m ih => rw [sn_ls, ← List.append_assoc, ih]; rfl
theorem sn_atL {l m : List Int32} {k : Nat} (h : k < l.length) : sn_at (l ++ m) k = sn_at l k := by
  unfold sn_at; rw [List.getElem?_append_left h]
theorem sn_atR {l m : List Int32} {k : Nat} (h : l.length ≤ k) : sn_at (l ++ m) k = sn_at m (k - l.length) := by
  unfold sn_at; rw [List.getElem?_append_right h]
theorem sn_at1 (x : Int32) {k : Nat} (h : k = 0) : sn_at [x] k = x := by rw [h]; rfl
theorem sn_len1 (l : List Int32) (x : Int32) : (l ++ [x]).length = l.length + 1 := by rw [List.length_append]; rfl
/-- an array with a list written from p on -/
def sn_wr (t : Nat → Int32) (p : Nat) (l : List Int32) : Nat → Int32 := fun j => if p ≤ j ∧ j < p + l.length then sn_at l (j - p) else t j
theorem sn_wr0 (t : Nat → Int32) (p : Nat) : sn_wr t p [] = t := by
  funext j; unfold sn_wr; exact if_neg (fun h => by have := h.2; simp at this; omega)
theorem sn_wrA (t : Nat → Int32) (p : Nat) (l m : List Int32) : sn_wr (sn_wr t p l) (p + l.length) m = sn_wr t p (l ++ m) := by
  funext j; unfold sn_wr
  by_cases h1 : p + l.length ≤ j ∧ j < p + l.length + m.length
  · rw [if_pos h1, if_pos ⟨by omega, by rw [List.length_append]; omega⟩, sn_atR (by omega)]
    congr 1; omega
  · rw [if_neg h1]
    by_cases h2 : p ≤ j ∧ j < p + l.length
    · rw [if_pos h2, if_pos ⟨h2.1, by rw [List.length_append]; omega⟩, sn_atL (by omega)]
    · rw [if_neg h2, if_neg (by rw [List.length_append]; omega)]
theorem sn_wr1 (t : Nat → Int32) (p : Nat) (x : Int32) : sn_wr t p [x] = upd t p x := by
  funext j; unfold sn_wr upd
  by_cases z : j = p
  · rw [if_pos ⟨by omega, by show j < p + 1; omega⟩, if_pos z, sn_at1 x (by omega)]
  · rw [if_neg (fun h => by have h2 : j < p + 1 := h.2; have h1 := h.1; omega), if_neg z]
theorem sn_wrS (t : Nat → Int32) (p q : Nat) (l : List Int32) (x : Int32) (hq : q = p + l.length) : upd (sn_wr t p l) q x = sn_wr t p (l ++ [x]) := by
  rw [hq, ← sn_wrA, sn_wr1]
theorem sn_wrG {t : Nat → Int32} {p k : Nat} {l : List Int32} (h : k < l.length) : sn_wr t p l (p + k) = sn_at l k := by
  unfold sn_wr
  rw [if_pos ⟨by omega, by omega⟩]
  congr 1; omega
/-- an array that begins with a list, up to N places -/
def sn_ag (N : Nat) (b : Nat → Int32) (l : List Int32) : Prop := ∀ k, k < l.length → k < N → b k = sn_at l k
theorem sn_ag0 {N : Nat} {b : Nat → Int32} : sn_ag N b [] := fun k h => absurd h (by simp)
theorem sn_agS {N : Nat} {b : Nat → Int32} {l : List Int32} {x : Int32} (h : sn_ag N b l) : sn_ag N (upd b l.length x) (l ++ [x]) := by
  intro k h1 h2
  rw [sn_len1] at h1
  by_cases z : k = l.length
  · rw [z, pk_us, sn_atR (by omega), sn_at1 x (by omega)]
  · rw [pk_un z, sn_atL (by omega)]; exact h k (by omega) h2
theorem sn_agN {N : Nat} {b : Nat → Int32} {l : List Int32} {x : Int32} (h : sn_ag N b l) (hN : N ≤ l.length) : sn_ag N b (l ++ [x]) := by
  intro k h1 h2
  rw [sn_atL (by omega)]; exact h k (by omega) h2
theorem sn_agE {N : Nat} {b : Nat → Int32} {l : List Int32} (h : sn_ag N b l) (hN : l.length ≤ N) : sn_ls b l.length = l := by
  rw [sn_lsC (fun k hk => h k hk (by omega)), sn_lsE]
def sn_sm (f : Nat → Nat) : Nat → Nat
  | 0 => 0
  | n + 1 => sn_sm f n + f n
theorem sn_smLe {f g : Nat → Nat} {n : Nat} (h : ∀ k, k < n → f k ≤ g k) : sn_sm f n ≤ sn_sm g n := by
  induction n with
  | zero => exact Nat.le_refl _
  | succ n ih =>
    have a := ih (fun k hk => h k (by omega))
    have b := h n (by omega)
    rw [sn_sm, sn_sm]; omega
theorem sn_smLt {f g : Nat → Nat} {n j : Nat} (h : ∀ k, k < n → f k ≤ g k) (hj : j < n) (h8 : f j + 8 ≤ g j) : sn_sm f n + 8 ≤ sn_sm g n := by
  induction n with
  | zero => omega
  | succ n ih =>
    have b := h n (by omega)
    rw [sn_sm, sn_sm]
    by_cases z : j = n
    · have a := sn_smLe (f := f) (g := g) (n := n) (fun k hk => h k (by omega))
      rw [z] at h8
      omega
    · have a := ih (fun k hk => h k (by omega)) (by omega)
      omega
end SNC
