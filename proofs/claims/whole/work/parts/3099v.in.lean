-- the class's constructor
/-- what has been made so far: which components, which references, sizes, what they hold; h0 before it -/
def in_ (S : List Nat) (P : List (Nat × Nat × Nat)) (N : Nat → Nat) (I : Nat → Nat → Int32) (L : Nat → Nat → Int64) (own ad : Nat → Nat) (h : xb_H) (own0 : Nat → Nat) (h0 : xb_H) : Prop :=
  (∀ k ∈ S, k < 41 ∧ own (ad k) = k + 2 ∧ xb_k h (ad k) = kdl k ∧ xb_n h (ad k) = N k ∧ xb_i h (ad k) = I k ∧ xb_l h (ad k) = L k ∧ xb_k h0 (ad k) = 0) ∧ (∀ e ∈ P, e.1 ∈ S ∧ e.2.2 ∈ S ∧ xb_r h (ad e.1) e.2.1 = some (ad e.2.2)) ∧ (∀ a, xb_k h0 a ≠ 0 → own a = own0 a ∧ xh_sm h0 h a) ∧ xb_ext h0 h
theorem kdl_nz : ∀ k, k < 41 → kdl k ≠ 0 := by decide
section IN1
variable {S : List Nat} {P : List (Nat × Nat × Nat)} {N : Nat → Nat} {I : Nat → Nat → Int32} {L : Nat → Nat → Int64} {own ad own0 : Nat → Nat} {h h' h0 : xb_H}
theorem in_.new (hI : in_ S P N I L own ad h own0 h0) {q : Nat} (zq : xb_k h q = 0) (c n kd : Nat) (hc : c < 41) (hn : c ∉ S) (hk : kdl c = kd) (e : h' = xb_new h q kd n) : in_ (c :: S) P (va_up N c n) (va_up I c (fun _ => 0)) (va_up L c (fun _ => 0)) (nown own q (c + 2)) (va_up ad c q) h' own0 h0 := by
  obtain ⟨i1, i2, i3, i4⟩ := hI
  have nq : ∀ k ∈ S, ad k ≠ q := fun k hk e9 => by
    obtain ⟨j1, j2, j3, -⟩ := i1 k hk
    rw [e9, zq] at j3
    exact kdl_nz k j1 j3.symm
  have ne : ∀ k ∈ S, k ≠ c := fun k hk e9 => hn (e9 ▸ hk)
  have zq0 : xb_k h0 q = 0 := ext_z i4 zq
  refine ⟨fun k hk' => ?_, fun x hx => ?_, fun a ha => ?_, fun a ha => ?_⟩
  · rcases List.mem_cons.mp hk' with e9 | e9
    · rw [e9]
      have u : ∀ {α : Type} (f : Nat → α) (x : α), va_up f c x c = x := fun f x => by rw [xh_up, if_pos rfl]
      rw [u, u, u, u, nown_eq]
      exact ⟨hc, rfl, by rw [e, xh_kN, if_pos rfl]; exact hk.symm, by rw [e, xh_nN, if_pos rfl], by rw [e, xh_iN, if_pos rfl], by rw [e, xh_lN, if_pos rfl], zq0⟩
    · obtain ⟨j1, j2, j3, j4, j5, j6, j7⟩ := i1 k e9
      have u : ∀ {α : Type} (f : Nat → α) (x : α), va_up f c x k = f k := fun f x => by rw [xh_up, if_neg (ne k e9)]
      rw [u, u, u, u, nown_ne (nq k e9)]
      exact ⟨j1, j2, by rw [e, xh_kN, if_neg (nq k e9)]; exact j3, by rw [e, xh_nN, if_neg (nq k e9)]; exact j4, by rw [e, xh_iN, if_neg (nq k e9)]; exact j5, by rw [e, xh_lN, if_neg (nq k e9)]; exact j6, j7⟩
  · obtain ⟨j1, j2, j3⟩ := i2 x hx
    refine ⟨List.mem_cons_of_mem _ j1, List.mem_cons_of_mem _ j2, ?_⟩
    rw [xh_up, if_neg (ne _ j1), xh_up, if_neg (ne _ j2), e, xh_rN, if_neg (nq _ j1)]
    exact j3
  · have hne : a ≠ q := fun e9 => ha (e9 ▸ zq0)
    refine ⟨by rw [nown_ne hne]; exact (i3 a ha).1, ?_⟩
    obtain ⟨j1, j2, j3⟩ := (i3 a ha).2
    exact ⟨by rw [e, xh_iN, if_neg hne]; exact j1, by rw [e, xh_lN, if_neg hne]; exact j2, by rw [e, xh_rN, if_neg hne]; exact j3⟩
  · have hne : a ≠ q := fun e9 => ha (e9 ▸ zq0)
    rw [e, xh_kN, if_neg hne, xh_nN, if_neg hne]
    exact i4 a ha
theorem in_.ne (hI : in_ S P N I L own ad h own0 h0) {a b : Nat} (ha : a ∈ S) (hb : b ∈ S) (hab : a ≠ b) : ad a ≠ ad b := fun e => by
  have h1 := (hI.1 a ha).2.1
  have h2 := (hI.1 b hb).2.1
  rw [e, h2] at h1
  omega
theorem in_.sP (hI : in_ S P N I L own ad h own0 h0) (p k c : Nat) {x y : Nat} (hp : p ∈ S) (hc : c ∈ S) (hu : ∀ e ∈ P, e.1 = p → e.2.1 ≠ k) (hx : ad p = x) (hy : ad c = y) (e : h' = xb_P h x k (some y)) : in_ S ((p, k, c) :: P) N I L own ad h' own0 h0 := by
  have hN := fun (a b : Nat) (ha : a ∈ S) (hb : b ∈ S) => hI.ne ha hb
  obtain ⟨i1, i2, i3, i4⟩ := hI
  subst hx hy
  refine ⟨fun j hj => ?_, fun z hz => ?_, fun a ha => ?_, fun a ha => ?_⟩
  · rw [e, xh_kP, xh_nP, xh_iP, xh_lP]
    exact i1 j hj
  · rcases List.mem_cons.mp hz with e9 | e9
    · rw [e9, e]
      exact ⟨hp, hc, by rw [xh_rP, if_pos rfl, xh_up, if_pos rfl]⟩
    · obtain ⟨j1, j2, j3⟩ := i2 z e9
      refine ⟨j1, j2, ?_⟩
      rw [e, xh_rP]
      split
      · rename_i h9
        have e1 : z.1 = p := Classical.byContradiction fun hne => hN _ _ j1 hp hne h9
        rw [xh_up, if_neg (hu z e9 e1), ← h9]
        exact j3
      · exact j3
  · have hne : a ≠ ad p := fun e9 => ha (e9 ▸ (i1 p hp).2.2.2.2.2.2)
    refine ⟨(i3 a ha).1, ?_⟩
    obtain ⟨j1, j2, j3⟩ := (i3 a ha).2
    exact ⟨by rw [e, xh_iP]; exact j1, by rw [e, xh_lP]; exact j2, by rw [e, xh_rP, if_neg hne]; exact j3⟩
  · rw [e, xh_kP, xh_nP]
    exact i4 a ha
theorem in_.sI (hI : in_ S P N I L own ad h own0 h0) (c k : Nat) {x : Nat} {v : Int32} (hc : c ∈ S) (hx : ad c = x) (e : h' = xb_I h x k v) : in_ S P N (va_up I c (va_up (I c) k v)) L own ad h' own0 h0 := by
  have hN := fun (a b : Nat) (ha : a ∈ S) (hb : b ∈ S) => hI.ne ha hb
  obtain ⟨i1, i2, i3, i4⟩ := hI
  subst hx
  refine ⟨fun j hj => ?_, fun z hz => ?_, fun a ha => ?_, fun a ha => ?_⟩
  · obtain ⟨j1, j2, j3, j4, j5, j6, j7⟩ := i1 j hj
    rw [e, xh_kI, xh_nI, xh_lI]
    refine ⟨j1, j2, j3, j4, ?_, j6, j7⟩
    rw [xh_iI, xh_up]
    by_cases h9 : j = c
    · rw [h9, if_pos rfl, if_pos rfl, (i1 c hc).2.2.2.2.1]
    · rw [if_neg (hN _ _ hj hc h9), if_neg h9]
      exact j5
  · rw [e, xh_rI]
    exact i2 z hz
  · have hne : a ≠ ad c := fun e9 => ha (e9 ▸ (i1 c hc).2.2.2.2.2.2)
    refine ⟨(i3 a ha).1, ?_⟩
    obtain ⟨j1, j2, j3⟩ := (i3 a ha).2
    exact ⟨by rw [e, xh_iI, if_neg hne]; exact j1, by rw [e, xh_lI]; exact j2, by rw [e, xh_rI]; exact j3⟩
  · rw [e, xh_kI, xh_nI]
    exact i4 a ha
theorem in_.sL (hI : in_ S P N I L own ad h own0 h0) (c k : Nat) {x : Nat} {v : Int64} (hc : c ∈ S) (hx : ad c = x) (e : h' = xb_L h x k v) : in_ S P N I (va_up L c (va_up (L c) k v)) own ad h' own0 h0 := by
  have hN := fun (a b : Nat) (ha : a ∈ S) (hb : b ∈ S) => hI.ne ha hb
  obtain ⟨i1, i2, i3, i4⟩ := hI
  subst hx
  refine ⟨fun j hj => ?_, fun z hz => ?_, fun a ha => ?_, fun a ha => ?_⟩
  · obtain ⟨j1, j2, j3, j4, j5, j6, j7⟩ := i1 j hj
    rw [e, xh_kL, xh_nL, xh_iL]
    refine ⟨j1, j2, j3, j4, j5, ?_, j7⟩
    rw [xh_lL, xh_up]
    by_cases h9 : j = c
    · rw [h9, if_pos rfl, if_pos rfl, (i1 c hc).2.2.2.2.2.1]
    · rw [if_neg (hN _ _ hj hc h9), if_neg h9]
      exact j6
  · rw [e, xh_rL]
    exact i2 z hz
  · have hne : a ≠ ad c := fun e9 => ha (e9 ▸ (i1 c hc).2.2.2.2.2.2)
    refine ⟨(i3 a ha).1, ?_⟩
    obtain ⟨j1, j2, j3⟩ := (i3 a ha).2
    exact ⟨by rw [e, xh_iL]; exact j1, by rw [e, xh_lL, if_neg hne]; exact j2, by rw [e, xh_rL]; exact j3⟩
  · rw [e, xh_kL, xh_nL]
    exact i4 a ha
theorem in_.k (hI : in_ S P N I L own ad h own0 h0) (c : Nat) {x kd : Nat} (hc : c ∈ S) (hx : ad c = x) (hk : kdl c = kd) : xb_k h x = kd := by rw [← hx, (hI.1 c hc).2.2.1, hk]
theorem in_.n (hI : in_ S P N I L own ad h own0 h0) (c : Nat) {x : Nat} (hc : c ∈ S) (hx : ad c = x) : xb_n h x = N c := by rw [← hx]; exact (hI.1 c hc).2.2.2.1
theorem in_.row (hI : in_ S P N I L own ad h own0 h0) (c : Nat) (w : Nat) (hc : c ∈ S) (hc1 : c + 1 ∈ S) (k1 : kdl c = 2) (k2 : kdl (c + 1) = 103) (i2 : (I c 2).toInt = w) (i1 : (I c 1).toInt = 0) (n1 : N (c + 1) = 4) (hp : (c, 0, c + 1) ∈ P) : xr_row h (ad c) w 0 (ad (c + 1)) := by
  obtain ⟨-, -, a3, a4, a5, -⟩ := hI.1 c hc
  obtain ⟨-, -, b3, b4, -⟩ := hI.1 (c + 1) hc1
  exact ⟨by rw [a3, k1], by rw [a5]; exact i2, by rw [a5]; exact i1, (hI.2.1 _ hp).2.2, by rw [b3, k2], by omega, by omega, by omega⟩
theorem in_.r (hI : in_ S P N I L own ad h own0 h0) (e : Nat × Nat × Nat) (he : e ∈ P) : xb_r h (ad e.1) e.2.1 = some (ad e.2.2) := (hI.2.1 e he).2.2
end IN1

/-- the world of a new object -/
def W0 : wD := (0, fun _ => 0, fun _ => 0, fun _ => (0, 0, 0, 0, fun _ => 0, fun _ => 0, fun _ => 0, fun _ _ => 0, fun _ => 0, fun _ => 0, fun _ => 0, fun _ _ _ _ _ => True), fun _ => 0, fun _ => 0, fun _ => 0, 0, fun _ => 0, 0, 0, 0, fun _ => 0)
/-- a new host: nothing is there -/
def in0 (ad : Nat → Nat) (h : xb_H) : Prop := xb_i h (ad 0) 3 = 0 ∧ xb_i h (ad 0) 9 = 0 ∧ xb_i h (ad 0) 10 = 0 ∧ xb_i h (ad 16) 1 = 0 ∧ xb_i h (ad 27) 1 = 0 ∧ xb_i h (ad 29) 1 = 0 ∧ xb_i h (ad 14) 11 = 0 ∧ xb_l h (ad 15) 5 = 0 ∧ xb_i h (ad 15) 3 = 0 ∧ xb_i h (ad 15) 4 = 0 ∧ xb_i h (ad 15) 7 = 0 ∧ xb_i h (ad 36) 0 = 0 ∧ xb_i h (ad 36) 1 = -1 ∧ xb_i h (ad 36) 2 = -1 ∧ xb_i h (ad 36) 3 = -1
section IN2
variable {own0 : Nat → Nat} {h h0 : xb_H}
set_option maxHeartbeats 4000000 in
set_option maxRecDepth 10000 in
theorem ho_init {q0 σ bc bs : Nat} {Qr : xb_H → Nat → Nat → Prop} (z0 : xb_k h0 q0 = 0) (e1 : h = xb_new h0 q0 1 0) (hbc : 100 ≤ bc) (hbs : 10000 ≤ bs)
    (hQ : ∀ (h' : xb_H) (own ad : Nat → Nat) (bc' bs' : Nat), ad 0 = q0 → (∀ a, xb_k h0 a ≠ 0 → own a = own0 a ∧ xh_sm h0 h' a) → xb_ext h0 h' → cI own ad h' W0 σ 0 512 → (∀ r ∈ rwl, xb_n h' (ad (r + 1)) = 4) → xb_n h' (ad 1) = 20 → xb_n h' (ad 31) = 16 → xb_n h' (ad 37) = 64 → bc ≤ bc' + 100 → bs ≤ bs' + 10000 → in0 ad h' → Qr h' bc' bs') : w_H_init q0 h bc bs Qr := by
  have i0 : in_ [] [] (fun _ => 0) (fun _ _ => 0) (fun _ _ => 0) own0 (fun _ => 0) h0 own0 h0 := ⟨fun k hk => (by simp at hk), fun e he => (by simp at he), fun a _ => ⟨rfl, xh_sm.rf _ _⟩, xb_ext.rf _⟩
  have i1 := i0.new z0 0 0 1 (by omega) (by decide) rfl e1
  try unfold w_H_init
  refine ⟨by omega, by omega, fun q1 z1 h2 e2 => ?_⟩
  have i2 := i1.new z1 1 20 100 (by omega) (by decide) rfl e2
  refine ⟨i2.k 0 (by decide) rfl rfl, ?_⟩
  refine fun h3 e3 => ?_
  have i3 := i2.sP 0 0 1 (by decide) (by decide) (by decide) rfl rfl e3
  refine ⟨by omega, by omega, fun q2 z2 h4 e4 => ?_⟩
  have i4 := i3.new z2 2 64 104 (by omega) (by decide) rfl e4
  refine fun h5 e5 => ?_
  have i5 := i4.sP 0 2 2 (by decide) (by decide) (by decide) rfl rfl e5
  refine ⟨by omega, by omega, fun q3 z3 h6 e6 => ?_⟩
  have i6 := i5.new z3 3 0 4 (by omega) (by decide) rfl e6
  try unfold w_Reader_init
  refine ⟨by omega, by omega, fun q4 z4 h7 e7 => ?_⟩
  have i7 := i6.new z4 4 200 102 (by omega) (by decide) rfl e7
  refine ⟨i7.k 3 (by decide) rfl rfl, ?_⟩
  refine fun h8 e8 => ?_
  have i8 := i7.sP 3 5 4 (by decide) (by decide) (by decide) rfl rfl e8
  refine fun _ => ?_
  refine fun h9 e9 => ?_
  have i9 := i8.sP 0 4 3 (by decide) (by decide) (by decide) rfl rfl e9
  refine ⟨by omega, by omega, fun q5 z5 h10 e10 => ?_⟩
  have i10 := i9.new z5 5 0 5 (by omega) (by decide) rfl e10
  try unfold w_Checker_init
  refine ⟨by omega, by omega, fun q6 z6 h11 e11 => ?_⟩
  have i11 := i10.new z6 6 1 100 (by omega) (by decide) rfl e11
  refine ⟨i11.k 5 (by decide) rfl rfl, ?_⟩
  refine fun h12 e12 => ?_
  have i12 := i11.sP 5 3 6 (by decide) (by decide) (by decide) rfl rfl e12
  refine ⟨by omega, by omega, fun q7 z7 h13 e13 => ?_⟩
  have i13 := i12.new z7 7 1000 100 (by omega) (by decide) rfl e13
  refine fun h14 e14 => ?_
  have i14 := i13.sP 5 6 7 (by decide) (by decide) (by decide) rfl rfl e14
  refine ⟨by omega, by omega, fun q8 z8 h15 e15 => ?_⟩
  have i15 := i14.new z8 8 201 102 (by omega) (by decide) rfl e15
  refine fun h16 e16 => ?_
  have i16 := i15.sP 5 10 8 (by decide) (by decide) (by decide) rfl rfl e16
  refine ⟨by omega, by omega, fun q9 z9 h17 e17 => ?_⟩
  have i17 := i16.new z9 9 201 102 (by omega) (by decide) rfl e17
  refine fun h18 e18 => ?_
  have i18 := i17.sP 5 11 9 (by decide) (by decide) (by decide) rfl rfl e18
  refine ⟨by omega, by omega, fun q10 z10 h19 e19 => ?_⟩
  have i19 := i18.new z10 10 201 102 (by omega) (by decide) rfl e19
  refine fun h20 e20 => ?_
  have i20 := i19.sP 5 12 10 (by decide) (by decide) (by decide) rfl rfl e20
  refine ⟨by omega, by omega, fun q11 z11 h21 e21 => ?_⟩
  have i21 := i20.new z11 11 201 102 (by omega) (by decide) rfl e21
  refine fun h22 e22 => ?_
  have i22 := i21.sP 5 13 11 (by decide) (by decide) (by decide) rfl rfl e22
  refine ⟨by omega, by omega, fun q12 z12 h23 e23 => ?_⟩
  have i23 := i22.new z12 12 201 102 (by omega) (by decide) rfl e23
  refine fun h24 e24 => ?_
  have i24 := i23.sP 5 14 12 (by decide) (by decide) (by decide) rfl rfl e24
  refine ⟨by omega, by omega, fun q13 z13 h25 e25 => ?_⟩
  have i25 := i24.new z13 13 201 101 (by omega) (by decide) rfl e25
  refine fun h26 e26 => ?_
  have i26 := i25.sP 5 15 13 (by decide) (by decide) (by decide) rfl rfl e26
  refine fun _ => ?_
  refine fun h27 e27 => ?_
  have i27 := i26.sP 0 5 5 (by decide) (by decide) (by decide) rfl rfl e27
  refine ⟨by omega, by omega, fun q14 z14 h28 e28 => ?_⟩
  have i28 := i27.new z14 14 0 7 (by omega) (by decide) rfl e28
  try unfold w_World_init
  refine ⟨by omega, by omega, fun q18 z18 h29 e29 => ?_⟩
  have i29 := i28.new z18 18 24 105 (by omega) (by decide) rfl e29
  refine ⟨i29.k 14 (by decide) rfl rfl, ?_⟩
  refine fun h30 e30 => ?_
  have i30 := i29.sP 14 0 18 (by decide) (by decide) (by decide) rfl rfl e30
  refine ⟨by omega, by omega, fun q19 z19 h31 e31 => ?_⟩
  have i31 := i30.new z19 19 0 2 (by omega) (by decide) rfl e31
  try unfold w_Row_init
  refine ⟨i31.k 19 (by decide) rfl rfl, ?_⟩
  refine fun h32 e32 => ?_
  have i32 := i31.sI 19 2 (by decide) rfl e32
  refine ⟨by omega, by omega, fun q20 z20 h33 e33 => ?_⟩
  have i33 := i32.new z20 20 4 103 (by omega) (by decide) rfl e33
  refine fun h34 e34 => ?_
  have i34 := i33.sP 19 0 20 (by decide) (by decide) (by decide) rfl rfl e34
  refine fun _ => ?_
  refine fun h35 e35 => ?_
  have i35 := i34.sP 14 2 19 (by decide) (by decide) (by decide) rfl rfl e35
  refine ⟨by omega, by omega, fun q21 z21 h36 e36 => ?_⟩
  have i36 := i35.new z21 21 0 2 (by omega) (by decide) rfl e36
  try unfold w_Row_init
  refine ⟨i36.k 21 (by decide) rfl rfl, ?_⟩
  refine fun h37 e37 => ?_
  have i37 := i36.sI 21 2 (by decide) rfl e37
  refine ⟨by omega, by omega, fun q22 z22 h38 e38 => ?_⟩
  have i38 := i37.new z22 22 4 103 (by omega) (by decide) rfl e38
  refine fun h39 e39 => ?_
  have i39 := i38.sP 21 0 22 (by decide) (by decide) (by decide) rfl rfl e39
  refine fun _ => ?_
  refine fun h40 e40 => ?_
  have i40 := i39.sP 14 3 21 (by decide) (by decide) (by decide) rfl rfl e40
  refine ⟨by omega, by omega, fun q23 z23 h41 e41 => ?_⟩
  have i41 := i40.new z23 23 0 2 (by omega) (by decide) rfl e41
  try unfold w_Row_init
  refine ⟨i41.k 23 (by decide) rfl rfl, ?_⟩
  refine fun h42 e42 => ?_
  have i42 := i41.sI 23 2 (by decide) rfl e42
  refine ⟨by omega, by omega, fun q24 z24 h43 e43 => ?_⟩
  have i43 := i42.new z24 24 4 103 (by omega) (by decide) rfl e43
  refine fun h44 e44 => ?_
  have i44 := i43.sP 23 0 24 (by decide) (by decide) (by decide) rfl rfl e44
  refine fun _ => ?_
  refine fun h45 e45 => ?_
  have i45 := i44.sP 14 4 23 (by decide) (by decide) (by decide) rfl rfl e45
  refine ⟨by omega, by omega, fun q25 z25 h46 e46 => ?_⟩
  have i46 := i45.new z25 25 0 2 (by omega) (by decide) rfl e46
  try unfold w_Row_init
  refine ⟨i46.k 25 (by decide) rfl rfl, ?_⟩
  refine fun h47 e47 => ?_
  have i47 := i46.sI 25 2 (by decide) rfl e47
  refine ⟨by omega, by omega, fun q26 z26 h48 e48 => ?_⟩
  have i48 := i47.new z26 26 4 103 (by omega) (by decide) rfl e48
  refine fun h49 e49 => ?_
  have i49 := i48.sP 25 0 26 (by decide) (by decide) (by decide) rfl rfl e49
  refine fun _ => ?_
  refine fun h50 e50 => ?_
  have i50 := i49.sP 14 5 25 (by decide) (by decide) (by decide) rfl rfl e50
  refine ⟨by omega, by omega, fun q27 z27 h51 e51 => ?_⟩
  have i51 := i50.new z27 27 0 2 (by omega) (by decide) rfl e51
  try unfold w_Row_init
  refine ⟨i51.k 27 (by decide) rfl rfl, ?_⟩
  refine fun h52 e52 => ?_
  have i52 := i51.sI 27 2 (by decide) rfl e52
  refine ⟨by omega, by omega, fun q28 z28 h53 e53 => ?_⟩
  have i53 := i52.new z28 28 4 103 (by omega) (by decide) rfl e53
  refine fun h54 e54 => ?_
  have i54 := i53.sP 27 0 28 (by decide) (by decide) (by decide) rfl rfl e54
  refine fun _ => ?_
  refine fun h55 e55 => ?_
  have i55 := i54.sP 14 6 27 (by decide) (by decide) (by decide) rfl rfl e55
  refine ⟨by omega, by omega, fun q29 z29 h56 e56 => ?_⟩
  have i56 := i55.new z29 29 0 2 (by omega) (by decide) rfl e56
  try unfold w_Row_init
  refine ⟨i56.k 29 (by decide) rfl rfl, ?_⟩
  refine fun h57 e57 => ?_
  have i57 := i56.sI 29 2 (by decide) rfl e57
  refine ⟨by omega, by omega, fun q30 z30 h58 e58 => ?_⟩
  have i58 := i57.new z30 30 4 103 (by omega) (by decide) rfl e58
  refine fun h59 e59 => ?_
  have i59 := i58.sP 29 0 30 (by decide) (by decide) (by decide) rfl rfl e59
  refine fun _ => ?_
  refine fun h60 e60 => ?_
  have i60 := i59.sP 14 9 29 (by decide) (by decide) (by decide) rfl rfl e60
  refine ⟨by omega, by omega, fun q31 z31 h61 e61 => ?_⟩
  have i61 := i60.new z31 31 16 100 (by omega) (by decide) rfl e61
  refine fun h62 e62 => ?_
  have i62 := i61.sP 14 10 31 (by decide) (by decide) (by decide) rfl rfl e62
  refine ⟨by omega, by omega, fun q32 z32 h63 e63 => ?_⟩
  have i63 := i62.new z32 32 0 2 (by omega) (by decide) rfl e63
  try unfold w_Row_init
  refine ⟨i63.k 32 (by decide) rfl rfl, ?_⟩
  refine fun h64 e64 => ?_
  have i64 := i63.sI 32 2 (by decide) rfl e64
  refine ⟨by omega, by omega, fun q33 z33 h65 e65 => ?_⟩
  have i65 := i64.new z33 33 4 103 (by omega) (by decide) rfl e65
  refine fun h66 e66 => ?_
  have i66 := i65.sP 32 0 33 (by decide) (by decide) (by decide) rfl rfl e66
  refine fun _ => ?_
  refine fun h67 e67 => ?_
  have i67 := i66.sP 14 12 32 (by decide) (by decide) (by decide) rfl rfl e67
  refine ⟨by omega, by omega, fun q34 z34 h68 e68 => ?_⟩
  have i68 := i67.new z34 34 0 2 (by omega) (by decide) rfl e68
  try unfold w_Row_init
  refine ⟨i68.k 34 (by decide) rfl rfl, ?_⟩
  refine fun h69 e69 => ?_
  have i69 := i68.sI 34 2 (by decide) rfl e69
  refine ⟨by omega, by omega, fun q35 z35 h70 e70 => ?_⟩
  have i70 := i69.new z35 35 4 103 (by omega) (by decide) rfl e70
  refine fun h71 e71 => ?_
  have i71 := i70.sP 34 0 35 (by decide) (by decide) (by decide) rfl rfl e71
  refine fun _ => ?_
  refine fun h72 e72 => ?_
  have i72 := i71.sP 14 13 34 (by decide) (by decide) (by decide) rfl rfl e72
  refine fun _ => ?_
  refine fun h73 e73 => ?_
  have i73 := i72.sP 0 6 14 (by decide) (by decide) (by decide) rfl rfl e73
  refine ⟨by omega, by omega, fun q15 z15 h74 e74 => ?_⟩
  have i74 := i73.new z15 15 0 8 (by omega) (by decide) rfl e74
  refine ⟨_, i74.r (0, 6, 14) (by decide), ?_⟩
  try unfold w_Machine_init
  refine ⟨by omega, by omega, fun q39 z39 h75 e75 => ?_⟩
  have i75 := i74.new z39 39 0 6 (by omega) (by decide) rfl e75
  try unfold w_Format_init
  refine ⟨i75.k 39 (by decide) rfl rfl, ?_⟩
  refine fun h76 e76 => ?_
  have i76 := i75.sI 39 0 (by decide) rfl e76
  refine fun h77 e77 => ?_
  have i77 := i76.sI 39 1 (by decide) rfl e77
  refine fun h78 e78 => ?_
  have i78 := i77.sL 39 2 (by decide) rfl e78
  refine fun h79 e79 => ?_
  have i79 := i78.sL 39 3 (by decide) rfl e79
  rw [show xb_l _ q39 3 = _ from congrFun (i79.1 39 (by decide)).2.2.2.2.2.1 3]
  refine fun h80 e80 => ?_
  have i80 := i79.sL 39 4 (by decide) rfl e80
  refine fun _ => ?_
  refine ⟨i80.k 15 (by decide) rfl rfl, ?_⟩
  refine fun h81 e81 => ?_
  have i81 := i80.sP 15 1 39 (by decide) (by decide) (by decide) rfl rfl e81
  refine ⟨by omega, by omega, fun q40 z40 h82 e82 => ?_⟩
  have i82 := i81.new z40 40 0 6 (by omega) (by decide) rfl e82
  try unfold w_Format_init
  refine ⟨i82.k 40 (by decide) rfl rfl, ?_⟩
  refine fun h83 e83 => ?_
  have i83 := i82.sI 40 0 (by decide) rfl e83
  refine fun h84 e84 => ?_
  have i84 := i83.sI 40 1 (by decide) rfl e84
  refine fun h85 e85 => ?_
  have i85 := i84.sL 40 2 (by decide) rfl e85
  refine fun h86 e86 => ?_
  have i86 := i85.sL 40 3 (by decide) rfl e86
  rw [show xb_l _ q40 3 = _ from congrFun (i86.1 40 (by decide)).2.2.2.2.2.1 3]
  refine fun h87 e87 => ?_
  have i87 := i86.sL 40 4 (by decide) rfl e87
  refine fun _ => ?_
  refine fun h88 e88 => ?_
  have i88 := i87.sP 15 2 40 (by decide) (by decide) (by decide) rfl rfl e88
  refine ⟨by omega, by omega, fun q36 z36 h89 e89 => ?_⟩
  have i89 := i88.new z36 36 4 102 (by omega) (by decide) rfl e89
  refine ⟨by rw [(i89.n 36 (x := q36) (by decide) rfl : _ = 4), z_in]; decide, ?_⟩
  refine fun h90 e90 => ?_
  have i90 := i89.sI 36 _ (by decide) rfl e90
  refine ⟨by rw [(i90.n 36 (x := q36) (by decide) rfl : _ = 4), z_in]; decide, ?_⟩
  refine fun h91 e91 => ?_
  have i91 := i90.sI 36 _ (by decide) rfl e91
  refine ⟨by rw [(i91.n 36 (x := q36) (by decide) rfl : _ = 4), z_in]; decide, ?_⟩
  refine fun h92 e92 => ?_
  have i92 := i91.sI 36 _ (by decide) rfl e92
  refine ⟨by rw [(i92.n 36 (x := q36) (by decide) rfl : _ = 4), z_in]; decide, ?_⟩
  refine fun h93 e93 => ?_
  have i93 := i92.sI 36 _ (by decide) rfl e93
  refine fun h94 e94 => ?_
  have i94 := i93.sP 15 6 36 (by decide) (by decide) (by decide) rfl rfl e94
  refine fun h95 e95 => ?_
  have i95 := i94.sI 15 8 (by decide) rfl e95
  refine ⟨by omega, by omega, fun q37 z37 h96 e96 => ?_⟩
  have i96 := i95.new z37 37 64 103 (by omega) (by decide) rfl e96
  refine fun h97 e97 => ?_
  have i97 := i96.sP 15 9 37 (by decide) (by decide) (by decide) rfl rfl e97
  refine ⟨by omega, by omega, fun q38 z38 h98 e98 => ?_⟩
  have i98 := i97.new z38 38 1000 102 (by omega) (by decide) rfl e98
  refine fun h99 e99 => ?_
  have i99 := i98.sP 15 11 38 (by decide) (by decide) (by decide) rfl rfl e99
  refine fun h100 e100 => ?_
  have i100 := i99.sP 15 0 14 (by decide) (by decide) (by decide) rfl rfl e100
  refine fun _ => ?_
  refine fun h101 e101 => ?_
  have i101 := i100.sP 0 7 15 (by decide) (by decide) (by decide) rfl rfl e101
  refine ⟨by omega, by omega, fun q16 z16 h102 e102 => ?_⟩
  have i102 := i101.new z16 16 0 2 (by omega) (by decide) rfl e102
  try unfold w_Row_init
  refine ⟨i102.k 16 (by decide) rfl rfl, ?_⟩
  refine fun h103 e103 => ?_
  have i103 := i102.sI 16 2 (by decide) rfl e103
  refine ⟨by omega, by omega, fun q17 z17 h104 e104 => ?_⟩
  have i104 := i103.new z17 17 4 103 (by omega) (by decide) rfl e104
  refine fun h105 e105 => ?_
  have i105 := i104.sP 16 0 17 (by decide) (by decide) (by decide) rfl rfl e105
  refine fun _ => ?_
  refine fun h106 e106 => ?_
  have i106 := i105.sP 0 8 16 (by decide) (by decide) (by decide) rfl rfl e106
  have iz := i106
  have mem : ∀ k, k < 41 → k ∈ [17, 16, 38, 37, 36, 40, 39, 15, 35, 34, 33, 32, 31, 30, 29, 28, 27, 26, 25, 24, 23, 22, 21, 20, 19, 18, 14, 13, 12, 11, 10, 9, 8, 7, 6, 5, 4, 3, 2, 1, 0] := by decide
  have sub : ∀ e ∈ cRl, e ∈ [(0, 8, 16), (16, 0, 17), (0, 7, 15), (15, 0, 14), (15, 11, 38), (15, 9, 37), (15, 6, 36), (15, 2, 40), (15, 1, 39), (0, 6, 14), (14, 13, 34), (34, 0, 35), (14, 12, 32), (32, 0, 33), (14, 10, 31), (14, 9, 29), (29, 0, 30), (14, 6, 27), (27, 0, 28), (14, 5, 25), (25, 0, 26), (14, 4, 23), (23, 0, 24), (14, 3, 21), (21, 0, 22), (14, 2, 19), (19, 0, 20), (14, 0, 18), (0, 5, 5), (5, 15, 13), (5, 14, 12), (5, 13, 11), (5, 12, 10), (5, 11, 9), (5, 10, 8), (5, 6, 7), (5, 3, 6), (0, 4, 3), (3, 5, 4), (0, 2, 2), (0, 0, 1)] := by decide
  refine hQ _ _ _ _ _ rfl iz.2.2.1 iz.2.2.2 ⟨⟨⟨fun k hk => ⟨(iz.1 k (mem k hk)).2.1, (iz.1 k (mem k hk)).2.2.1⟩, fun e he => iz.r e (sub e he)⟩, ?_, ?_, ?_, ?_⟩, ⟨?_, ?_, ?_, ?_, fun j => ?_⟩, ⟨?_, 0, ?_, by omega, fun i hi => absurd hi (Nat.not_lt_zero i)⟩, ⟨?_, ?_, fun k hk => ?_⟩, ⟨0, iz.row 16 1 (by decide) (by decide) rfl rfl rfl rfl rfl (by decide), by omega⟩, ?_, ?_, ?_, ?_⟩ (fun r hr => ?_) ?_ ?_ ?_ ?_ ?_ ?_
  · refine ⟨⟨iz.row 19 1 (by decide) (by decide) rfl rfl rfl rfl rfl (by decide), by decide, fun f hf => absurd hf (Nat.not_lt_zero f)⟩, ⟨iz.row 21 1 (by decide) (by decide) rfl rfl rfl rfl rfl (by decide), by decide, fun f hf => absurd hf (Nat.not_lt_zero f)⟩, ⟨iz.row 23 1 (by decide) (by decide) rfl rfl rfl rfl rfl (by decide), by decide, fun f hf => absurd hf (Nat.not_lt_zero f)⟩, ⟨iz.row 25 1 (by decide) (by decide) rfl rfl rfl rfl rfl (by decide), by decide⟩, ⟨0, iz.row 27 1 (by decide) (by decide) rfl rfl rfl rfl rfl (by decide), by omega⟩, ⟨0, 0, iz.row 29 3 (by decide) (by decide) rfl rfl rfl rfl rfl (by decide), ?_, Nat.zero_le _, ?_, fun k hk => absurd hk (Nat.not_lt_zero k)⟩, ⟨(iz.1 18 (by decide)).2.2.2.1, by decide, ?_, fun k hk => absurd hk (Nat.not_lt_zero k)⟩, ⟨⟨0, iz.row 32 1 (by decide) (by decide) rfl rfl rfl rfl rfl (by decide)⟩, 0, iz.row 34 1 (by decide) (by decide) rfl rfl rfl rfl rfl (by decide)⟩, ⟨trivial, trivial, trivial⟩⟩
    · rw [(iz.1 14 (by decide)).2.2.2.2.1]
      rfl
    · rw [(iz.1 31 (by decide)).2.2.2.1]
      decide
    · rw [(iz.1 14 (by decide)).2.2.2.2.1]
      rfl
  · refine ⟨(iz.1 36 (by decide)).2.2.2.1, (iz.1 38 (by decide)).2.2.2.1, ?_, ?_⟩
    · rw [(iz.1 37 (by decide)).2.2.2.1]
      decide
    · rw [(iz.1 37 (by decide)).2.2.2.1]
      decide
  · refine .inl ⟨?_, ?_⟩
    · rw [(iz.1 15 (by decide)).2.2.2.2.1]
      rfl
    · rw [(iz.1 15 (by decide)).2.2.2.2.1]
      rfl
  · refine ⟨⟨(iz.1 39 (by decide)).2.2.1, .inl ⟨rfl, ?_⟩⟩, ⟨(iz.1 40 (by decide)).2.2.1, .inr ⟨rfl, ?_⟩⟩⟩
    · rw [(iz.1 39 (by decide)).2.2.2.2.1, (iz.1 39 (by decide)).2.2.2.2.2.1]
      exact ⟨rfl, rfl, rfl, by decide, by decide⟩
    · rw [(iz.1 40 (by decide)).2.2.2.2.1, (iz.1 40 (by decide)).2.2.2.2.2.1]
      exact ⟨rfl, rfl, rfl, by decide, by decide⟩
  · rw [(iz.1 0 (by decide)).2.2.2.2.1]
    rfl
  · exact Nat.zero_le _
  · rw [(iz.1 1 (by decide)).2.2.2.1]
    decide
  · rw [(iz.1 1 (by decide)).2.2.2.1]
    decide
  · rw [(iz.1 1 (by decide)).2.2.2.2.1]
    show -128 ≤ (0 : Int32).toInt ∧ (0 : Int32).toInt ≤ 127
    decide
  · exact (iz.1 2 (by decide)).2.2.2.1
  · rw [(iz.1 0 (by decide)).2.2.2.2.1]
    rfl
  · exact (iz.1 4 (by decide)).2.2.2.1
  · rw [(iz.1 6 (by decide)).2.2.2.1]
    decide
  · rw [(iz.1 (k + 7) (mem _ (by omega))).2.2.2.1]
    revert k
    decide
  · rw [(iz.1 29 (by decide)).2.2.2.2.1]
    decide
  · rw [(iz.1 14 (by decide)).2.2.2.2.1]
    decide
  · rw [(iz.1 31 (by decide)).2.2.2.1]
    decide
  · rw [(iz.1 31 (by decide)).2.2.2.1]
    decide
  · have h9 : ∀ r ∈ rwl, r + 1 < 41 := by decide
    rw [(iz.1 (r + 1) (mem _ (h9 r hr))).2.2.2.1]
    revert r
    decide
  · exact (iz.1 1 (by decide)).2.2.2.1
  · exact (iz.1 31 (by decide)).2.2.2.1
  · exact (iz.1 37 (by decide)).2.2.2.1
  · omega
  · omega
  · refine ⟨?_, ?_, ?_, ?_, ?_, ?_, ?_, ?_, ?_, ?_, ?_, ?_, ?_, ?_, ?_⟩
    · rw [(iz.1 0 (by decide)).2.2.2.2.1]; rfl
    · rw [(iz.1 0 (by decide)).2.2.2.2.1]; rfl
    · rw [(iz.1 0 (by decide)).2.2.2.2.1]; rfl
    · rw [(iz.1 16 (by decide)).2.2.2.2.1]; rfl
    · rw [(iz.1 27 (by decide)).2.2.2.2.1]; rfl
    · rw [(iz.1 29 (by decide)).2.2.2.2.1]; rfl
    · rw [(iz.1 14 (by decide)).2.2.2.2.1]; rfl
    · rw [(iz.1 15 (by decide)).2.2.2.2.2.1]; rfl
    · rw [(iz.1 15 (by decide)).2.2.2.2.1]; rfl
    · rw [(iz.1 15 (by decide)).2.2.2.2.1]; rfl
    · rw [(iz.1 15 (by decide)).2.2.2.2.1]; rfl
    · rw [(iz.1 36 (by decide)).2.2.2.2.1]; rfl
    · rw [(iz.1 36 (by decide)).2.2.2.2.1]; rfl
    · rw [(iz.1 36 (by decide)).2.2.2.2.1]; rfl
    · rw [(iz.1 36 (by decide)).2.2.2.2.1]; rfl
end IN2
