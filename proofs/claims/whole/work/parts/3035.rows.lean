-- the rows of a module that is read
def xr_c (k : Nat) : Nat := [5, 7, 2, 3, 3, 4, 5, 5, 2, 5, 2, 5].getD k 1
def s12 (f : Nat → Nat) : Nat := f 0 + f 1 + f 2 + f 3 + f 4 + f 5 + f 6 + f 7 + f 8 + f 9 + f 10 + f 11
theorem s12_up (f g : Nat → Nat) (k : Nat) (hk : k < 12) (h : ∀ j, j < 12 → j ≠ k → g j = f j) : s12 g + f k = s12 f + g k := by
  unfold s12
  match k, hk with
  | 0, _ => rw [h 1 (by omega) (by omega), h 2 (by omega) (by omega), h 3 (by omega) (by omega), h 4 (by omega) (by omega), h 5 (by omega) (by omega), h 6 (by omega) (by omega), h 7 (by omega) (by omega), h 8 (by omega) (by omega), h 9 (by omega) (by omega), h 10 (by omega) (by omega), h 11 (by omega) (by omega)]; omega
  | 1, _ => rw [h 0 (by omega) (by omega), h 2 (by omega) (by omega), h 3 (by omega) (by omega), h 4 (by omega) (by omega), h 5 (by omega) (by omega), h 6 (by omega) (by omega), h 7 (by omega) (by omega), h 8 (by omega) (by omega), h 9 (by omega) (by omega), h 10 (by omega) (by omega), h 11 (by omega) (by omega)]; omega
  | 2, _ => rw [h 0 (by omega) (by omega), h 1 (by omega) (by omega), h 3 (by omega) (by omega), h 4 (by omega) (by omega), h 5 (by omega) (by omega), h 6 (by omega) (by omega), h 7 (by omega) (by omega), h 8 (by omega) (by omega), h 9 (by omega) (by omega), h 10 (by omega) (by omega), h 11 (by omega) (by omega)]; omega
  | 3, _ => rw [h 0 (by omega) (by omega), h 1 (by omega) (by omega), h 2 (by omega) (by omega), h 4 (by omega) (by omega), h 5 (by omega) (by omega), h 6 (by omega) (by omega), h 7 (by omega) (by omega), h 8 (by omega) (by omega), h 9 (by omega) (by omega), h 10 (by omega) (by omega), h 11 (by omega) (by omega)]; omega
  | 4, _ => rw [h 0 (by omega) (by omega), h 1 (by omega) (by omega), h 2 (by omega) (by omega), h 3 (by omega) (by omega), h 5 (by omega) (by omega), h 6 (by omega) (by omega), h 7 (by omega) (by omega), h 8 (by omega) (by omega), h 9 (by omega) (by omega), h 10 (by omega) (by omega), h 11 (by omega) (by omega)]; omega
  | 5, _ => rw [h 0 (by omega) (by omega), h 1 (by omega) (by omega), h 2 (by omega) (by omega), h 3 (by omega) (by omega), h 4 (by omega) (by omega), h 6 (by omega) (by omega), h 7 (by omega) (by omega), h 8 (by omega) (by omega), h 9 (by omega) (by omega), h 10 (by omega) (by omega), h 11 (by omega) (by omega)]; omega
  | 6, _ => rw [h 0 (by omega) (by omega), h 1 (by omega) (by omega), h 2 (by omega) (by omega), h 3 (by omega) (by omega), h 4 (by omega) (by omega), h 5 (by omega) (by omega), h 7 (by omega) (by omega), h 8 (by omega) (by omega), h 9 (by omega) (by omega), h 10 (by omega) (by omega), h 11 (by omega) (by omega)]; omega
  | 7, _ => rw [h 0 (by omega) (by omega), h 1 (by omega) (by omega), h 2 (by omega) (by omega), h 3 (by omega) (by omega), h 4 (by omega) (by omega), h 5 (by omega) (by omega), h 6 (by omega) (by omega), h 8 (by omega) (by omega), h 9 (by omega) (by omega), h 10 (by omega) (by omega), h 11 (by omega) (by omega)]; omega
  | 8, _ => rw [h 0 (by omega) (by omega), h 1 (by omega) (by omega), h 2 (by omega) (by omega), h 3 (by omega) (by omega), h 4 (by omega) (by omega), h 5 (by omega) (by omega), h 6 (by omega) (by omega), h 7 (by omega) (by omega), h 9 (by omega) (by omega), h 10 (by omega) (by omega), h 11 (by omega) (by omega)]; omega
  | 9, _ => rw [h 0 (by omega) (by omega), h 1 (by omega) (by omega), h 2 (by omega) (by omega), h 3 (by omega) (by omega), h 4 (by omega) (by omega), h 5 (by omega) (by omega), h 6 (by omega) (by omega), h 7 (by omega) (by omega), h 8 (by omega) (by omega), h 10 (by omega) (by omega), h 11 (by omega) (by omega)]; omega
  | 10, _ => rw [h 0 (by omega) (by omega), h 1 (by omega) (by omega), h 2 (by omega) (by omega), h 3 (by omega) (by omega), h 4 (by omega) (by omega), h 5 (by omega) (by omega), h 6 (by omega) (by omega), h 7 (by omega) (by omega), h 8 (by omega) (by omega), h 9 (by omega) (by omega), h 11 (by omega) (by omega)]; omega
  | 11, _ => rw [h 0 (by omega) (by omega), h 1 (by omega) (by omega), h 2 (by omega) (by omega), h 3 (by omega) (by omega), h 4 (by omega) (by omega), h 5 (by omega) (by omega), h 6 (by omega) (by omega), h 7 (by omega) (by omega), h 8 (by omega) (by omega), h 9 (by omega) (by omega), h 10 (by omega) (by omega)]; omega
  | k + 12, hk => omega
/-- the twelve rows of a module: where they lie, their sizes and what they hold -/
def md_rows (h0 h : xb_H) (md : Nat) (rw it n : Nat → Nat) (vs : Nat → Nat → Int64) : Prop :=
  (∀ k, k < 12 → xb_r h md (k + 2) = some (rw k) ∧ xr_row h (rw k) (xr_c k) (n k) (it k) ∧ (∀ j, j < n k → xb_l h (it k) j = vs k j) ∧ xb_k h0 (rw k) = 0 ∧ xb_k h0 (it k) = 0) ∧
  (∀ i j, i < 12 → j < 12 → rw i = rw j → i = j) ∧ (∀ i j, i < 12 → j < 12 → it i = it j → i = j)
def md_pot (h : xb_H) (it : Nat → Nat) (M : Nat) (k : Nat) : Nat := 4 * M - 2 * xb_n h (it k)
/-- the room that is left is enough for all rows to come to M items, for a fault, and for the rest -/
def md_B (h : xb_H) (it : Nat → Nat) (M rc rs bc bs : Nat) : Prop :=
  rc + 1 + s12 (fun k => md_pot h it M k / 8) ≤ bc ∧ rs + 6 + s12 (md_pot h it M) ≤ bs
theorem md_B.c {h : xb_H} {it : Nat → Nat} {M rc rs bc bs : Nat} (hB : md_B h it M rc rs bc bs) : rc + 1 ≤ bc := by
  have := hB.1
  omega
theorem md_B.s {h : xb_H} {it : Nat → Nat} {M rc rs bc bs : Nat} (hB : md_B h it M rc rs bc bs) : rs + 6 ≤ bs := by
  have := hB.2
  omega
/-- nothing but rows and rows of longs has changed -/
def xh_fr (h h' : xb_H) : Prop := xb_ext h h' ∧ ∀ a, xb_k h a ≠ 0 → xb_k h a ≠ 2 → xb_k h a ≠ 103 → xh_sm h h' a
theorem sp_md_add {h0 h : xb_H} {rd op md M rc rs bc bs k : Nat} {rw it n : Nat → Nat} {vs : Nat → Nat → Int64} {x : Int64} {Qr : xb_H → Nat → Nat → Prop}
    (hX : rd_X h0 h rd op md) (hR : md_rows h0 h md rw it n vs) (hB : md_B h it M rc rs bc bs) (hk : k < 12) (hn : n k < M) (hM : M ≤ 1000000)
    (hQ : ∀ (h' : xb_H) (it' : Nat → Nat) (bc' bs' : Nat), rd_X h0 h' rd op md → md_rows h0 h' md rw it' (va_up n k (n k + 1)) (va_up vs k (va_up (vs k) (n k) x)) → md_B h' it' M rc rs bc' bs' → xh_fr h h' → Qr h' bc' bs') : w_Row_add (rw k) x h bc bs Qr := by
  obtain ⟨r1, r2, r3⟩ := id hR
  obtain ⟨a1, a2, a3, a4, a5⟩ := r1 k hk
  obtain ⟨b1, b2, b3, b4, b5, b6, b7, b8⟩ := id a2
  have hs1 := s12_up (md_pot h it M) (fun j => if j = k then 0 else md_pot h it M j) k hk (fun j _ hj => if_neg hj)
  have hs2 := s12_up (fun k => md_pot h it M k / 8) (fun j => if j = k then 0 else md_pot h it M j / 8) k hk (fun j _ hj => if_neg hj)
  have hcost : xr_cost (n k + 1) (xb_n h (it k)) ≤ md_pot h it M k ∧ xr_cell (n k + 1) (xb_n h (it k)) ≤ md_pot h it M k / 8 := by
    unfold xr_cost xr_cell md_pot
    constructor <;> split <;> omega
  have hp1 : md_pot h it M k ≤ s12 (md_pot h it M) := by
    simp only [if_pos] at hs1
    omega
  have hp2 : md_pot h it M k / 8 ≤ s12 (fun k => md_pot h it M k / 8) := by
    simp only [if_pos] at hs2
    omega
  have hB' := id hB
  unfold md_B at hB'
  refine sp_Row_add a2 (by omega) (by omega) (by omega) (fun h' q' g1 g2 g3 g4 g5 g6 g7 => ?_)
  have hqf : xb_k h0 q' = 0 := by
    rcases g5 with e | e
    · rw [e]; exact a5
    · by_cases h9 : xb_k h0 q' = 0
      · exact h9
      · have := (hX.1 q' h9).1
        rw [e] at this
        exact this.symm
  have hmd : md ≠ rw k := fun e => by
    have h1 := hX.2.2.2.1
    rw [e, b1] at h1
    cases h1
  have hmq : md ≠ it k := fun e => by
    have h1 := hX.2.2.2.1
    rw [e, b5] at h1
    cases h1
  have hne0 : ∀ a, xb_k h0 a ≠ 0 → xb_k h a ≠ 0 := fun a ha => by rw [(hX.1 a ha).1]; exact ha
  have hmd' := g6 md (by rw [hX.2.2.2.1]; omega) hmd hmq
  have itne : ∀ j, j < 12 → j ≠ k → it j ≠ it k := fun j hj hjk e => hjk (r3 j k hj hk e)
  have itne' : ∀ j, j < 12 → j ≠ k → it j ≠ q' := fun j hj hjk e => by
    rcases g5 with e1 | e1
    · exact itne j hj hjk (e.trans e1)
    · have := (r1 j hj).2.1.2.2.2.2.1
      rw [e, e1] at this
      cases this
  refine hQ h' (va_up it k q') _ _ ⟨hX.1.tr g7, fun a h1 h2 h3 => ?_, ?_, ?_, hX.2.2.2.2⟩ ⟨fun j hj => ?_, r2, fun i j hi hj e => ?_⟩ ⟨?_, ?_⟩ ⟨g7, fun a h1 h2 h3 => ?_⟩
  · refine (hX.2.1 a h1 h2 h3).tr (g6 a (hne0 a h1) ?_ ?_)
    · exact fun e => h1 (e ▸ a4)
    · exact fun e => h1 (e ▸ a5)
  · have hrd : rd ≠ rw k := fun e => by
      have h1 := hX.2.2.2.2.1
      rw [e, a4] at h1
      cases h1
    have hrq : rd ≠ it k := fun e => by
      have h1 := hX.2.2.2.2.1
      rw [e, a5] at h1
      cases h1
    rw [(g6 rd (by rw [(hX.1.k hX.2.2.2.2.1)]; omega) hrd hrq).2.2]
    exact hX.2.2.1
  · have := g7.k (c := 2) hX.2.2.2.1
    exact this
  · by_cases hjk : j = k
    · subst hjk
      rw [xh_up, if_pos rfl, xh_up, if_pos rfl, xh_up, if_pos rfl, hmd'.2.2]
      refine ⟨a1, g1, fun i hi => ?_, a4, hqf⟩
      rw [xh_up]
      split
      · rename_i e
        rw [e]
        exact g4
      · rw [g3 i (by omega)]
        exact a3 i (by omega)
    · obtain ⟨c1, c2, c3, c4, c5⟩ := r1 j hj
      rw [xh_up, if_neg hjk, xh_up, if_neg hjk, xh_up, if_neg hjk, hmd'.2.2]
      obtain ⟨d1, d2, d3, d4, d5, d6, d7, d8⟩ := c2
      have hrr : rw j ≠ rw k := fun e => hjk (r2 j k hj hk e)
      have hrq : rw j ≠ it k := fun e => by rw [e, b5] at d1; cases d1
      have hir : it j ≠ rw k := fun e => by rw [e, b1] at d5; cases d5
      have f1 := g6 (rw j) (by rw [d1]; omega) hrr hrq
      have f2 := g6 (it j) (by rw [d5]; omega) hir (itne j hj hjk)
      refine ⟨c1, ⟨g7.k (c := 1) d1, by rw [f1.1]; exact d2, by rw [f1.1]; exact d3, by rw [f1.2.2]; exact d4, g7.k (c := 102) d5, ?_, ?_, ?_⟩, fun i hi => by rw [f2.2.1]; exact c3 i hi, c4, c5⟩
      · rw [g7.n (c := 102) d5]; exact d6
      · rw [g7.n (c := 102) d5]; exact d7
      · rw [g7.n (c := 102) d5]; exact d8
  · rw [xh_up, xh_up] at e
    by_cases h1 : i = k <;> by_cases h2 : j = k
    · omega
    · rw [if_pos h1, if_neg h2] at e
      exact absurd e.symm (itne' j hj h2)
    · rw [if_neg h1, if_pos h2] at e
      exact absurd e (itne' i hi h1)
    · rw [if_neg h1, if_neg h2] at e
      exact r3 i j hi hj e
  · have hg : ∀ j, j < 12 → j ≠ k → md_pot h' (va_up it k q') M j / 8 = md_pot h it M j / 8 := fun j hj hjk => by
      unfold md_pot
      rw [xh_up, if_neg hjk, g7.n (c := 102) (r1 j hj).2.1.2.2.2.2.1]
    have e1 := s12_up (fun j => md_pot h it M j / 8) (fun j => md_pot h' (va_up it k q') M j / 8) k hk hg
    have e2 : md_pot h' (va_up it k q') M k / 8 + xr_cell (n k + 1) (xb_n h (it k)) ≤ md_pot h it M k / 8 := by
      unfold md_pot
      rw [xh_up, if_pos rfl, g2]
      unfold xr_cost xr_cell
      split <;> omega
    omega
  · have hg : ∀ j, j < 12 → j ≠ k → md_pot h' (va_up it k q') M j = md_pot h it M j := fun j hj hjk => by
      unfold md_pot
      rw [xh_up, if_neg hjk, g7.n (c := 102) (r1 j hj).2.1.2.2.2.2.1]
    have e1 := s12_up (md_pot h it M) (md_pot h' (va_up it k q') M) k hk hg
    have e2 : md_pot h' (va_up it k q') M k + xr_cost (n k + 1) (xb_n h (it k)) ≤ md_pot h it M k := by
      unfold md_pot
      rw [xh_up, if_pos rfl, g2]
      unfold xr_cost
      split <;> omega
    omega
  · exact g6 a h1 (fun e => h2 (e ▸ b1)) (fun e => h3 (e ▸ b5))
