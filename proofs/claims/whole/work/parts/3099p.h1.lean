-- the class from outside: what every call keeps
/-- the room that the tape and the names may still take -/
def tP (n : Nat) : Nat := if n = 65536 then 0 else 327680 - 2 * n
def nP (n : Nat) : Nat := 81920 - 2 * n
def cTp (ad : Nat → Nat) (h : xb_H) (ts : Nat) : Prop := (xb_i h (ad 0) 1).toInt = ts ∧ ts ≤ xb_n h (ad 1) ∧ 20 ≤ xb_n h (ad 1) ∧ xb_n h (ad 1) ≤ 65536 ∧ ∀ j, -128 ≤ (xb_i h (ad 1) j).toInt ∧ (xb_i h (ad 1) j).toInt ≤ 127
def cMd (own ad : Nat → Nat) (h : xb_H) : Prop := xb_n h (ad 2) = 64 ∧ ∃ mc : Nat, (xb_i h (ad 0) 3).toInt = mc ∧ mc ≤ 64 ∧ ∀ i, i < mc → ∃ (md : Nat) (d : mD), xb_r h (ad 2) i = some md ∧ mo own h md d
def cRd (ad : Nat → Nat) (h : xb_H) : Prop := xb_n h (ad 4) = 200 ∧ xb_n h (ad 6) ≤ 1000000 ∧ ∀ k, k < 7 → xb_n h (ad (k + 7)) = (if k = 0 then 1000 else 201)
def cAr (ad : Nat → Nat) (h : xb_H) : Prop := ∃ na : Nat, xr_row h (ad 16) 1 na (ad 17) ∧ na ≤ 1000
/-- K calls are left -/
def cNm (ad : Nat → Nat) (h : xb_H) (ts K : Nat) : Prop := (xb_i h (ad 29) 1).toInt + 3 * K ≤ 1536 ∧ (xb_i h (ad 14) 11).toInt + ts + 20 * K ≤ 10240 ∧ 16 ≤ xb_n h (ad 31) ∧ xb_n h (ad 31) ≤ 20480
def xC (ad : Nat → Nat) (h : xb_H) (W : wD) (ts K : Nat) : Nat := tP (xb_n h (ad 1)) / 8 + nP (xb_n h (ad 31)) / 8 + 12 * ts + 245 * K + 6 * (25 - wic W)
def xS (ad : Nat → Nat) (h : xb_H) (W : wD) (ts K : Nat) : Nat := tP (xb_n h (ad 1)) + nP (xb_n h (ad 31)) + 99 * ts + 3020 * K + 19000 * (25 - wic W)
def cG (ad : Nat → Nat) (h : xb_H) (W : wD) (ts K rc rs bc bs : Nat) : Prop := bgv ad h (rc + xC ad h W ts K) (rs + xS ad h W ts K) bc bs
def cI (own ad : Nat → Nat) (h : xb_H) (W : wD) (σ ts K : Nat) : Prop := (cB own ad h ∧ wI own ad h W σ ∧ mS ad h ∧ rS ad h W ∧ fI ad h) ∧ cTp ad h ts ∧ cMd own ad h ∧ cRd ad h ∧ cAr ad h ∧ cNm ad h ts K
/-- what does not belong to the class stays -/
def hR (own own' : Nat → Nat) (h h' : xb_H) : Prop := (∀ a, xb_k h a ≠ 0 → own' a = own a) ∧ xb_ext h h' ∧ ∀ a, xb_k h a ≠ 0 → (60 ≤ own a ∨ own a = 1) → xh_sm h h' a
/-- a number is none of n -/
def byd (n : Nat) (x : Int32) : Prop := x.toInt < 0 ∨ (n : Int) ≤ x.toInt
/-- the modules, in their order -/
def cMx (own ad : Nat → Nat) (h : xb_H) (mc : Nat) (M : Nat → mD) : Prop := xb_n h (ad 2) = 64 ∧ (xb_i h (ad 0) 3).toInt = mc ∧ mc ≤ 64 ∧ ∀ i, i < mc → ∃ md : Nat, xb_r h (ad 2) i = some md ∧ mo own h md (M i)
section HO1
variable {own own' own2 ad ad' : Nat → Nat} {h h' h2 : xb_H} {W W' : wD} {σ ts ts' K rc rs bc bs bc' bs' : Nat}
theorem hR.rf : hR own own h h := ⟨fun _ _ => rfl, xb_ext.rf h, fun a _ _ => xh_sm.rf h a⟩
theorem hR.tr (e1 : hR own own' h h') (e2 : hR own' own2 h' h2) : hR own own2 h h2 :=
  ⟨fun a ha => (e2.1 a (ext_nz e1.2.1 ha)).trans (e1.1 a ha), e1.2.1.tr e2.2.1, fun a ha h6 => (e1.2.2 a ha h6).tr (e2.2.2 a (ext_nz e1.2.1 ha) (by rw [e1.1 a ha]; exact h6))⟩
theorem stp.hR {C : List Nat} (s : stp C [] own ad own' ad' h h') (hB : cB own ad h) (hC : ∀ k ∈ C, k < 41) : hR own own' h h' :=
  ⟨s.2.2.1, s.2.2.2.1, fun a ha h6 => s.n1 hB hC ha (by simp) rfl (by omega)⟩
theorem stg.hR (s : stg own ad own' ad' h h') (hB : cB own ad h) : hR own own' h h' :=
  ⟨s.2.2.1, s.2.2.2.1, fun a ha h6 => s.2.2.2.2.1 a ha (by omega) (by omega) (fun k hk => hB.nk (goC_lt k hk) rfl (by omega))⟩
theorem cNm.dn (hn : cNm ad h ts (K + 1)) : cNm ad h ts K := by
  obtain ⟨n1, n2, n3, n4⟩ := hn
  exact ⟨by omega, by omega, n3, n4⟩
theorem cI.dn (hI : cI own ad h W σ ts (K + 1)) : cI own ad h W σ ts K := ⟨hI.1, hI.2.1, hI.2.2.1, hI.2.2.2.1, hI.2.2.2.2.1, hI.2.2.2.2.2.dn⟩
theorem cG.ge (hg : cG ad h W ts (K + 1) rc rs bc bs) : 245 ≤ bc ∧ 3020 ≤ bs := by
  obtain ⟨g1, g2⟩ := hg
  unfold xC at g1
  unfold xS at g2
  omega
theorem cG.no {c s : Nat} (hg : cG ad h W ts (K + 1) rc rs bc bs) (hc : c ≤ 245) (hs : s ≤ 3020) : cG ad h W ts K rc rs (bc - c) (bs - s) := by
  obtain ⟨g1, g2⟩ := hg
  unfold xC at g1
  unfold xS at g2
  unfold cG bgv bg xC xS
  omega
/-- nothing changed -/
theorem cI.no {c s : Nat} (hI : cI own ad h W σ ts (K + 1)) (hg : cG ad h W ts (K + 1) rc rs bc bs) (hc : c ≤ 245) (hs : s ≤ 3020) : cI own ad h W σ ts K ∧ cG ad h W ts K rc rs (bc - c) (bs - s) :=
  ⟨hI.dn, hg.no hc hs⟩
/-- an exception and no other change -/
theorem ho_ex {X : String} {Qt : String → xb_H → Nat → Nat → Prop} (hg : cG ad h W ts (K + 1) rc rs bc bs) (hQt : Qt X h (bc - 1) (bs - 6)) : 1 ≤ bc ∧ 6 ≤ bs ∧ Qt X h (bc - 1) (bs - 6) := by
  have := hg.ge
  exact ⟨by omega, by omega, hQt⟩
theorem ho_inst {x1 : Int32} {Qr : Nat → xb_H → Nat → Nat → Prop} {Qt : String → xb_H → Nat → Nat → Prop} (hB : cB own ad h) (hW : wI own ad h W σ) (hQ : ∀ i : Nat, x1.toInt = i → i < wic W → Qr (wia W i) h bc bs) (hT : byd (wic W) x1 → 1 ≤ bc ∧ 6 ≤ bs ∧ Qt "java/lang/IndexOutOfBoundsException" h (bc - 1) (bs - 6)) : w_H_instanceNumbered (ad 0) x1 h bc bs Qr Qt := by
  obtain ⟨l1, l2, l3, l4⟩ := hW.2.2.2.2.2.2.1
  unfold w_H_instanceNumbered w_H_instanceNumbered_L15
  refine ⟨fun e => hT (.inl (z_lt.mp e)), fun e => ⟨hB.k 0 (by omega), ad 14, hB.r (0, 6, 14) (by decide), hB.k 14 (by omega), fun e2 => ⟨ad 14, hB.r (0, 6, 14) (by decide), hB.k 14 (by omega), ad 18, hB.r (14, 0, 18) (by decide), hB.k 18 (by omega), ?_⟩, fun e2 => hT (.inr ?_)⟩⟩
  · rw [z_lt, show (0 : Int32).toInt = 0 from rfl] at e
    rw [z_lt, l3] at e2
    obtain ⟨i, hi⟩ : ∃ i : Nat, x1.toInt = i := ⟨_, (Int.toNat_of_nonneg (by omega)).symm⟩
    refine ⟨by rw [z_in, l1]; omega, wia W i, ?_, hQ i hi (by omega)⟩
    rw [z_cl, hi, Int.toNat_natCast]
    exact (l4 i (by omega)).1
  · rw [z_lt, l3] at e2
    omega
theorem ho_mod {x1 : Int32} {mc : Nat} {M : Nat → mD} {Qr : Nat → xb_H → Nat → Nat → Prop} {Qt : String → xb_H → Nat → Nat → Prop} (hB : cB own ad h) (hM : cMx own ad h mc M) (hQ : ∀ i md : Nat, x1.toInt = i → i < mc → xb_r h (ad 2) i = some md → mo own h md (M i) → Qr md h bc bs) (hT : byd mc x1 → 1 ≤ bc ∧ 6 ≤ bs ∧ Qt "java/lang/IndexOutOfBoundsException" h (bc - 1) (bs - 6)) : w_H_moduleNumbered (ad 0) x1 h bc bs Qr Qt := by
  obtain ⟨m1, m2, m3, m4⟩ := hM
  unfold w_H_moduleNumbered w_H_moduleNumbered_L12
  refine ⟨fun e => hT (.inl (z_lt.mp e)), fun e => ⟨hB.k 0 (by omega), fun e2 => ⟨ad 2, hB.r (0, 2, 2) (by decide), hB.k 2 (by omega), ?_⟩, fun e2 => hT (.inr ?_)⟩⟩
  · rw [z_lt, show (0 : Int32).toInt = 0 from rfl] at e
    rw [z_lt, m2] at e2
    obtain ⟨i, hi⟩ : ∃ i : Nat, x1.toInt = i := ⟨_, (Int.toNat_of_nonneg (by omega)).symm⟩
    obtain ⟨md, j1, j2⟩ := m4 i (by omega)
    refine ⟨by rw [z_in, m1]; omega, md, ?_, hQ i md hi (by omega) j1 j2⟩
    rw [z_cl, hi, Int.toNat_natCast]
    exact j1
  · rw [z_lt, m2] at e2
    omega
theorem ho_fault {x1 : Int32} {Qr : Int32 → xb_H → Nat → Nat → Prop} {Qt : String → xb_H → Nat → Nat → Prop} (hI : cI own ad h W σ ts (K + 1)) (hg : cG ad h W ts (K + 1) rc rs bc bs) (hQ0 : x1.toInt = 0 → Qr (xb_i h (ad 0) 9) h bc bs) (hQ1 : x1.toInt = 1 → Qr (xb_i h (ad 0) 10) h bc bs) (hQt : byd 2 x1 → Qt "java/lang/IndexOutOfBoundsException" h (bc - 1) (bs - 6)) : w_H_fault (ad 0) x1 h bc bs Qr Qt := by
  have k0 : xb_k h (ad 0) = 1 := hI.1.1.k 0 (by omega)
  unfold w_H_fault w_H_fault_L9 w_H_fault_L34
  refine ⟨fun e => ho_ex hg (hQt (.inl (z_lt.mp e))), fun e => ⟨fun e1 => ⟨fun e2 => ⟨k0, hQ1 ?_⟩, fun e2 => ⟨k0, hQ0 (z_eq.mp e2)⟩⟩, fun e1 => ho_ex hg (hQt (.inr ?_))⟩⟩
  · rw [z_lt, show (0 : Int32).toInt = 0 from rfl] at e
    rw [z_le, show (1 : Int32).toInt = 1 from rfl] at e1
    rw [z_eq, show (0 : Int32).toInt = 0 from rfl] at e2
    omega
  · rw [z_le, show (1 : Int32).toInt = 1 from rfl] at e1
    omega
/-- the row of a module that is meant by a number -/
def mrk (k : Nat) : Nat := if k = 8 then 11 else k
theorem ho_module {x1 x2 : Int32} {mc : Nat} {M : Nat → mD} {Qr : Int32 → xb_H → Nat → Nat → Prop} {Qt : String → xb_H → Nat → Nat → Prop} (hI : cI own ad h W σ ts (K + 1)) (hg : cG ad h W ts (K + 1) rc rs bc bs) (hM : cMx own ad h mc M) (hQ : ∀ (i k : Nat) (r : Int32), x1.toInt = i → i < mc → x2.toInt = k → k < 9 → r.toInt = (dn (M i) (mrk k) / xr_c (mrk k) : Nat) → Qr r h bc bs) (hQt : byd mc x1 ∨ byd 9 x2 → Qt "java/lang/IndexOutOfBoundsException" h (bc - 1) (bs - 6)) : w_H_module (ad 0) x1 x2 h bc bs Qr Qt := by
  have hB := hI.1.1
  unfold w_H_module
  refine ⟨hB.k 0 (by omega), ho_mod hB hM (fun i md hi hi2 j1 hm _ => ?_) (fun e => ho_ex hg (hQt (.inl e)))⟩
  have L : ∀ (y : Int32) (k k' : Nat), y.toInt = k → k < 9 → mrk k = k' → k' < 12 → x2 = y → xb_k h md = 3 ∧ ∃ b : Nat, xb_r h md (k' + 2) = some b ∧ xb_k h b = 2 ∧ w_Row_lines b h (fun (r : Int32) (h8 : xb_H) => xb_ext h h8 → Qr r h8 bc bs) := fun y k k' hy hk9 hk' hk e => by
    have hc : 0 < xr_c k' := by
      have : ∀ k, k < 12 → 0 < xr_c k := by decide
      exact this k' hk
    exact ⟨hm.1.k, _, hm.1.row hk, hm.1.krow hk, md_lines hm.1 hk rfl hc (fun r e9 _ => hQ i k r hi hi2 (by rw [e, hy]) hk9 (by rw [hk']; exact e9))⟩
  refine ⟨L 0 0 0 rfl (by omega) rfl (by omega), L 1 1 1 rfl (by omega) rfl (by omega), L 2 2 2 rfl (by omega) rfl (by omega), L 3 3 3 rfl (by omega) rfl (by omega), L 4 4 4 rfl (by omega) rfl (by omega), L 5 5 5 rfl (by omega) rfl (by omega), L 6 6 6 rfl (by omega) rfl (by omega), L 7 7 7 rfl (by omega) rfl (by omega), L 8 8 11 rfl (by omega) rfl (by omega), fun z0 z1 z2 z3 z4 z5 z6 z7 z8 => ho_ex hg (hQt (.inr ?_))⟩
  rw [z_eq] at z0 z1 z2 z3 z4 z5 z6 z7 z8
  simp only [Int32.reduceToInt] at z0 z1 z2 z3 z4 z5 z6 z7 z8
  unfold byd
  omega
theorem ho_room {x1 x2 : Int32} {mc : Nat} {M : Nat → mD} {Qr : Int32 → xb_H → Nat → Nat → Prop} {Qt : String → xb_H → Nat → Nat → Prop} (hI : cI own ad h W σ ts (K + 1)) (hg : cG ad h W ts (K + 1) rc rs bc bs) (hM : cMx own ad h mc M) (hQ : ∀ (i k : Nat) (r : Int32), x1.toInt = i → i < mc → x2.toInt = k → k < dn (M i) 9 / 5 → r = Int64.toInt32 (dvs (M i) 9 (5 * k + 4)) → Qr r h bc bs) (hQt : (byd mc x1 ∨ ∃ i : Nat, x1.toInt = i ∧ i < mc ∧ byd (dn (M i) 9 / 5) x2) → Qt "java/lang/IndexOutOfBoundsException" h (bc - 1) (bs - 6)) : w_H_room (ad 0) x1 x2 h bc bs Qr Qt := by
  have hB := hI.1.1
  unfold w_H_room w_H_room_L21
  refine ⟨hB.k 0 (by omega), ho_mod hB hM (fun i md hi hi2 j1 hm _ => ⟨fun e => ho_ex hg (hQt (.inr ⟨i, hi, hi2, .inl (z_lt.mp e)⟩)), fun e => ⟨hm.1.k, _, hm.1.row (k := 9) (by omega), hm.1.krow (by omega), md_lines hm.1 (k := 9) (c := 5) (by omega) rfl (by omega) (fun r9 e9 _ => ⟨fun e2 => ⟨_, hm.1.row (k := 9) (by omega), hm.1.krow (by omega), ?_⟩, fun e2 => ho_ex hg (hQt (.inr ⟨i, hi, hi2, .inr ?_⟩))⟩)⟩⟩) (fun e => ho_ex hg (hQt (.inl e)))⟩
  · rw [z_lt, show (0 : Int32).toInt = 0 from rfl] at e
    rw [z_lt, e9] at e2
    obtain ⟨k, hk⟩ : ∃ i : Nat, x2.toInt = i := ⟨_, (Int.toNat_of_nonneg (by omega)).symm⟩
    exact md_at (c := 5) hm.1 (i := k) (j := 4) (by omega) rfl hk rfl (by omega) (by omega) (fun r er _ => hQ i k _ hi hi2 hk (by omega) (z_eq.mpr (by rw [z_of64]; exact er)))
  · rw [z_lt, e9] at e2
    omega
theorem ho_pages {x1 : Int32} {Qr : Int32 → xb_H → Nat → Nat → Prop} {Qt : String → xb_H → Nat → Nat → Prop} (hI : cI own ad h W σ ts (K + 1)) (hg : cG ad h W ts (K + 1) rc rs bc bs) (hQ : ∀ (i : Nat) (r : Int32), x1.toInt = i → i < wic W → (xb_r h (wia W i) 7 = none → r = -1) → (∀ ma, xb_r h (wia W i) 7 = some ma → r = xb_i h ma 3) → Qr r h bc bs) (hQt : byd (wic W) x1 → Qt "java/lang/IndexOutOfBoundsException" h (bc - 1) (bs - 6)) : w_H_pages (ad 0) x1 h bc bs Qr Qt := by
  have hB := hI.1.1
  have hW := hI.1.2.1
  unfold w_H_pages w_H_pages_L21
  refine ⟨hB.k 0 (by omega), ho_inst hB hW (fun i hi hi2 _ => ?_) (fun e => ho_ex hg (hQt e))⟩
  obtain ⟨-, ⟨⟨a1, -⟩, -, -, -, -, -, -, j2⟩⟩ := hW.2.2.2.2.2.2.1.2.2.2 i hi2
  refine ⟨a1, fun e => hQ i _ hi hi2 (fun _ => rfl) (fun ma e9 => ?_), fun b5 e5 => ⟨(j2 b5 e5).1, hQ i _ hi hi2 (fun e9 => ?_) (fun ma e9 => ?_)⟩⟩
  · rw [e] at e9
    cases e9
  · rw [e5] at e9
    cases e9
  · rw [e5] at e9
    rw [Option.some.inj e9]
theorem ho_variable {x1 x2 : Int32} {Qr : Int64 → xb_H → Nat → Nat → Prop} {Qt : String → xb_H → Nat → Nat → Prop} (hI : cI own ad h W σ ts (K + 1)) (hg : cG ad h W ts (K + 1) rc rs bc bs) (hQ : ∀ i k : Nat, x1.toInt = i → i < wic W → x2.toInt = k → k < nvr (wd W i) → Qr (xb_l h (ad 22) (vnI h W i k)) h bc bs) (hQt : (byd (wic W) x1 ∨ ∃ i : Nat, x1.toInt = i ∧ i < wic W ∧ byd (nvr (wd W i)) x2) → Qt "java/lang/IndexOutOfBoundsException" h (bc - 1) (bs - 6)) : w_H_variable (ad 0) x1 x2 h bc bs Qr Qt := by
  have hB := hI.1.1
  have hW := hI.1.2.1
  obtain ⟨v1, v2, v3⟩ := hW.2.1
  unfold w_H_variable w_H_variable_L24
  refine ⟨hB.k 0 (by omega), ho_inst hB hW (fun i hi hi2 _ => ⟨fun e => ho_ex hg (hQt (.inr ⟨i, hi, hi2, .inl (z_lt.mp e)⟩)), fun e => ?_⟩) (fun e => ho_ex hg (hQt (.inl e)))⟩
  obtain ⟨-, hiO⟩ := hW.2.2.2.2.2.2.1.2.2.2 i hi2
  obtain ⟨a1, a2, a3, a4, hm⟩ := hiO.1
  refine ⟨a1, _, a4, hm.1.k, _, hm.1.row (k := 5) (by omega), hm.1.krow (by omega), md_lines hm.1 (k := 5) (c := 4) (by omega) rfl (by omega) (fun r11 e11 _ => ⟨fun e2 => ⟨ad 14, hB.r (0, 6, 14) (by decide), hB.k 14 (by omega), ad 21, hB.r (14, 3, 21) (by decide), hB.k 21 (by omega), ad 22, hB.r (21, 0, 22) (by decide), ?_⟩, fun e2 => ho_ex hg (hQt (.inr ⟨i, hi, hi2, .inr ?_⟩))⟩)⟩
  · rw [z_lt, show (0 : Int32).toInt = 0 from rfl] at e
    rw [z_lt, e11] at e2
    obtain ⟨k, hk⟩ : ∃ k : Nat, x2.toInt = k := ⟨_, (Int.toNat_of_nonneg (by omega)).symm⟩
    have hkn : k < nvr (wd W i) := by unfold nvr; omega
    refine iO_variableId hiO v2 hk hkn (fun r v j1 j2 ⟨j3, j3v⟩ _ => ⟨hB.k 22 (by omega), ?_, ?_⟩)
    · have := v1.2.2.2.2.2.1
      rw [z_in, j1]
      omega
    · rw [z_cl, j1, Int.toNat_natCast, j3v]
      exact hQ i k hi hi2 hk hkn
  · rw [z_lt, e11] at e2
    unfold nvr
    omega
end HO1
